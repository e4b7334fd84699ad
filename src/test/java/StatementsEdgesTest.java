/** The boundary cases that the term of lines and promises 19 to 22 name, each by itself. */
public final class StatementsEdgesTest {
    private static final Edges edges = new Edges("StatementsEdgesTest");

    public static void main(String[] args) {
        lineArguments();
        fortyLines();
        matchArguments();
        matchNothing();
        singleDaysAway();
        singleAmount();
        singleNearest();
        singleTies();
        eachLegOnce();
        linesInOrder();
        pairDaysAway();
        pairSameDay();
        pairAmount();
        pairOfTwoLegs();
        pairsInOrder();
        pairsForLinesInOrder();
        singlesAheadOfPairs();
        legsThatAreGone();
        legsAboveInt();
        matchAnew();
        matchStays();
        matchOfOneAccount();
        matchFull();
        leftArguments();
        leftAnswers();
        matchedArguments();
        matchedAnswers();
        edges.end();
    }

    /** Account 0 with one leg an entry; told as day, amount, day, amount .. */
    private static Tollgate withLegs(int... daysAndAmounts) {
        Tollgate x = Ledgers.ofAllKinds();
        for (int i = 0; i < daysAndAmounts.length; i += 2) {
            Ledgers.post(x, daysAndAmounts[i], 0, 0, daysAndAmounts[i + 1], 4, -daysAndAmounts[i + 1]);
        }
        return x;
    }

    private static Tollgate withLines(Tollgate x, int... daysAndAmounts) {
        for (int i = 0; i < daysAndAmounts.length; i += 2) {
            x.line(0, daysAndAmounts[i], daysAndAmounts[i + 1]);
        }
        return x;
    }

    private static int[] of(int... numbers) {
        return numbers;
    }

    /** Which entry each line is matched with (its first leg's one), and which line the leg on 0 of each entry is. */
    private static void matches(String edge, int days, int[] legs, int[] lines, int[] entries, int[] ofLegs) {
        Edges.Made made = () -> withLines(withLegs(legs), lines);
        int due = 0;
        for (int line = 0; line < entries.length; line++) {
            int l = line;
            due += entries[line] < 0 ? 0 : 1;
            edges.answers(edge + ": line " + line, made, entries[line], x -> {
                x.match(0, days);
                return x.matched(l);
            });
        }
        for (int entry = 0; entry < ofLegs.length; entry++) {
            int e = entry;
            edges.answers(edge + ": leg of entry " + entry, made, ofLegs[entry], x -> {
                x.match(0, days);
                return x.ofLeg(e, 0, 3);
            });
        }
        edges.answers(edge + ": how many", made, due, x -> x.match(0, days));
        edges.tells(edge + ": how many would be", made, due, x -> x.wouldMatch(0, days));
    }

    // Promise 19
    private static void lineArguments() {
        Edges.Made made = Ledgers::withThousand;
        edges.range("line: account", made, 0, 4, Edges.INDEX, (x, account) -> x.line(account, 0, 1));
        edges.range("line: day", made, 0, 364, Edges.ARGUMENT, (x, day) -> x.line(0, day, 1));
        edges.range("line: amount", made, -1000000, 1000000, Edges.ARGUMENT, (x, amount) -> x.line(0, 0, amount));
        edges.refused("line: 0", made, Edges.ARGUMENT, x -> x.line(0, 0, 0));
        edges.answers("line: 1", made, 0, x -> x.line(0, 0, 1));
        edges.answers("line: -1", made, 0, x -> x.line(0, 0, -1));
        edges.refused("line: index ahead of day", made, Edges.INDEX, x -> x.line(5, 365, 1));
        edges.refused("line: index ahead of amount", made, Edges.INDEX, x -> x.line(-1, 0, 0));
        edges.answers("line: on a locked day", () -> {
            Tollgate x = Ledgers.withThousand();
            x.close(0, 4);
            return x;
        }, 0, x -> x.line(0, 0, 1));
    }

    private static Tollgate withLineCount(int count) {
        Tollgate x = withLegs(0, 5);
        for (int line = 0; line < count; line++) {
            x.line(line % 5, 364 - line, 5 + line);
        }
        return x;
    }

    private static void fortyLines() {
        edges.answers("line: the first", () -> withLineCount(0), 0, x -> x.line(0, 0, 5));
        edges.answers("line: the fortieth", () -> withLineCount(39), 39, x -> x.line(0, 0, 5));
        edges.refused("line: the forty-first", () -> withLineCount(40), Edges.STATE, x -> x.line(0, 0, 5));
        edges.refused("line: full, index first", () -> withLineCount(40), Edges.INDEX, x -> x.line(5, 0, 5));
        edges.refused("line: full, day first", () -> withLineCount(40), Edges.ARGUMENT, x -> x.line(0, -1, 5));
        edges.refused("line: full, amount first", () -> withLineCount(40), Edges.ARGUMENT, x -> x.line(0, 0, 1000001));
        edges.answers("line: the fortieth is matched", () -> withLineCount(39), 0, x -> {
            x.line(0, 0, 5);
            x.match(0, 0);
            return x.matched(39);
        });
    }

    // Promise 20, and the term of lines
    private static void matchArguments() {
        Edges.Made made = () -> withLines(withLegs(0, 5), 0, 5);
        edges.range("match: account", made, 0, 4, Edges.INDEX, (x, account) -> x.match(account, 0));
        edges.range("match: days", made, 0, 30, Edges.ARGUMENT, (x, days) -> x.match(0, days));
        edges.refused("match: index ahead of argument", made, Edges.INDEX, x -> x.match(5, 31));
        edges.refused("match: refused, what is matched stays", () -> {
            Tollgate x = made.ledger();
            x.match(0, 0);
            return x;
        }, Edges.ARGUMENT, x -> x.match(0, 31));
    }

    private static void matchNothing() {
        edges.answers("match: no lines", () -> withLegs(0, 5), 0, x -> x.match(0, 30));
        edges.answers("match: no legs", () -> withLines(withLegs(), 0, 5), 0, x -> x.match(0, 30));
        edges.answers("match: no lines and no legs", Ledgers::ofAllKinds, 0, x -> x.match(4, 30));
        edges.answers("match: a draft's legs do not count", () -> {
            Tollgate x = withLines(withLegs(), 0, 5);
            Ledgers.drafted(x, 0, 0, 0, 5, 4, -5);
            return x;
        }, 0, x -> x.match(0, 30));
    }

    // "whose DAY is not more than that away"
    private static void singleDaysAway() {
        for (int days : of(0, 1, 30)) {
            String within = ", within " + days;
            matches("ahead, just as far" + within, days, of(100 - days, 5), of(100, 5), of(0), of(0));
            matches("behind, just as far" + within, days, of(100 + days, 5), of(100, 5), of(0), of(0));
            matches("ahead, 1 farther" + within, days, of(99 - days, 5), of(100, 5), of(-1), of(-1));
            matches("behind, 1 farther" + within, days, of(101 + days, 5), of(100, 5), of(-1), of(-1));
        }
        matches("from the first day to 30", 30, of(0, 5), of(30, 5), of(0), of(0));
        matches("from the last day to 334", 30, of(364, 5), of(334, 5), of(0), of(0));
        matches("from the last day to the first", 30, of(364, 5), of(0, 5), of(-1), of(-1));
    }

    private static void singleAmount() {
        matches("the amount", 0, of(0, 5), of(0, 5), of(0), of(0));
        matches("1 less", 0, of(0, 4), of(0, 5), of(-1), of(-1));
        matches("1 more", 0, of(0, 6), of(0, 5), of(-1), of(-1));
        matches("the other sign", 0, of(0, -5), of(0, 5), of(-1), of(-1));
        matches("below 0", 0, of(0, -5), of(0, -5), of(0), of(0));
        matches("the greatest", 0, of(0, 1000000), of(0, 1000000), of(0), of(0));
        matches("the least", 0, of(0, -1000000), of(0, -1000000), of(0), of(0));
    }

    // "the one whose DAY is nearest"
    private static void singleNearest() {
        matches("the nearest is the last one", 9, of(8, 5, 9, 5, 10, 5), of(10, 5), of(2), of(-1, -1, 0));
        matches("the nearest is the first one", 9, of(10, 5, 9, 5, 11, 5), of(10, 5), of(0), of(0, -1, -1));
        matches("1 away ahead of 2 away", 9, of(8, 5, 11, 5), of(10, 5), of(1), of(-1, 0));
        matches("1 away behind of 2 away", 9, of(12, 5, 9, 5), of(10, 5), of(1), of(-1, 0));
    }

    // "of several that of the smallest DAY, then of the smallest ENTRY, then the smallest one"
    private static void singleTies() {
        matches("the smallest day, made last", 2, of(12, 5, 8, 5), of(10, 5), of(1), of(-1, 0));
        matches("the smallest day, made first", 2, of(8, 5, 12, 5), of(10, 5), of(0), of(0, -1));
        matches("the smallest entry", 2, of(8, 5, 8, 5), of(10, 5), of(0), of(0, -1));
        matches("the smallest entry of the smallest day", 2, of(12, 5, 8, 5, 8, 5), of(10, 5), of(1), of(-1, 0, -1));
        Edges.Made made = () -> {
            Tollgate x = Ledgers.ofAllKinds();
            Ledgers.post(x, 0, 0, 4, -10, 0, 5, 0, 5);
            x.line(0, 0, 5);
            x.match(0, 0);
            return x;
        };
        edges.tells("the smallest leg", made, 0, x -> x.ofLeg(0, 1, 3));
        edges.tells("not the leg behind it", made, -1, x -> x.ofLeg(0, 2, 3));
    }

    private static void eachLegOnce() {
        matches("one leg, two lines", 9, of(5, 7), of(5, 7, 5, 7), of(0, -1), of(0));
        matches("two legs, one line", 9, of(5, 7, 5, 7), of(5, 7), of(0), of(0, -1));
        matches("the second line takes the next nearest", 9, of(5, 7, 8, 7), of(5, 7, 5, 7), of(0, 1), of(0, 1));
        matches("the next nearest is too far", 2, of(5, 7, 8, 7), of(5, 7, 5, 7), of(0, -1), of(0, -1));
    }

    // "for each LINE, by DAYS, then by numbers"
    private static void linesInOrder() {
        matches("the line of the smaller day, made last", 9, of(5, 7), of(6, 7, 5, 7), of(-1, 0), of(1));
        matches("the line of the smaller day, farther away", 9, of(9, 7), of(9, 7, 8, 7), of(-1, 0), of(1));
        matches("the smaller number", 9, of(5, 7), of(6, 7, 6, 7), of(0, -1), of(0));
        matches("days 5, 5, 4", 9, of(5, 7, 5, 7), of(5, 7, 5, 7, 4, 7), of(1, -1, 0), of(2, 0));
        matches("days 3, 1, 2", 9, of(1, 7, 1, 7), of(3, 7, 1, 7, 2, 7), of(-1, 0, 1), of(1, 2));
    }

    // Two legs: "not more than that away"
    private static void pairDaysAway() {
        for (int days : of(0, 1, 30)) {
            String within = ", within " + days;
            twoOn("two, ahead, just as far" + within, days, 100 - days, true);
            twoOn("two, behind, just as far" + within, days, 100 + days, true);
            twoOn("two, ahead, 1 farther" + within, days, 99 - days, false);
            twoOn("two, behind, 1 farther" + within, days, 101 + days, false);
        }
    }

    private static void twoOn(String edge, int within, int day, boolean fit) {
        int[] ofLegs = fit ? of(0, 0) : of(-1, -1);
        matches(edge, within, of(day, 2, day, 3), of(100, 5), of(ofLegs[0]), ofLegs);
    }

    // "have the same DAY"
    private static void pairSameDay() {
        matches("two of two days", 30, of(5, 2, 6, 3), of(5, 5), of(-1), of(-1, -1));
        matches("two of two days, as far away", 30, of(4, 2, 6, 3), of(5, 5), of(-1), of(-1, -1));
        matches("two of one day behind one of another", 30, of(6, 2, 5, 2, 5, 3), of(5, 5), of(1), of(-1, 0, 0));
    }

    private static void pairAmount() {
        matches("two, 1 less", 0, of(5, 2, 5, 2), of(5, 5), of(-1), of(-1, -1));
        matches("two, 1 more", 0, of(5, 3, 5, 3), of(5, 5), of(-1), of(-1, -1));
        matches("two, below 0", 0, of(5, -2, 5, -3), of(5, -5), of(0), of(0, 0));
        matches("two of which one is below 0", 0, of(5, 7, 5, -2), of(5, 5), of(0), of(0, 0));
        matches("two, the greatest together", 0, of(5, 999999, 5, 1), of(5, 1000000), of(0), of(0, 0));
        matches("two of the greatest are too much", 0, of(5, 1000000, 5, 1000000), of(5, 1), of(-1), of(-1, -1));
        matches("two that are 0 together are no line", 0, of(5, 4, 5, -4), of(5, 8), of(-1), of(-1, -1));
    }

    // "the first two LEGS .. the first one first, then the second one, behind that"
    private static void pairOfTwoLegs() {
        matches("no leg twice", 0, of(5, 3), of(5, 6), of(-1), of(-1));
        matches("no three legs", 0, of(5, 1, 5, 2, 5, 4), of(5, 7), of(-1), of(-1, -1, -1));
        Edges.Made made = () -> {
            Tollgate x = Ledgers.ofAllKinds();
            Ledgers.post(x, 0, 0, 0, 3, 4, -7, 0, 4);
            x.line(0, 0, 7);
            x.match(0, 0);
            return x;
        };
        edges.tells("two of one entry", made, 0, x -> x.matched(0));
        edges.tells("its first leg", made, 0, x -> x.ofLeg(0, 0, 3));
        edges.tells("its other account's leg", made, -1, x -> x.ofLeg(0, 1, 3));
        edges.tells("its last leg", made, 0, x -> x.ofLeg(0, 2, 3));
        edges.answers("two of one entry, one just behind the other", () -> {
            Tollgate x = Ledgers.ofAllKinds();
            Ledgers.post(x, 0, 0, 4, -7, 0, 3, 0, 4);
            x.line(0, 0, 7);
            return x;
        }, 1, x -> x.match(0, 0));
    }

    private static void pairsInOrder() {
        matches("first and last, not the inner two", 0, of(5, 1, 5, 2, 5, 8, 5, 9), of(5, 10), of(0), of(0, -1, -1, 0));
        matches("the first of two that fit as the second", 0, of(5, 6, 5, 4, 5, 4), of(5, 10), of(0), of(0, 0, -1));
        matches("the first of two that fit as the first", 0, of(5, 4, 5, 4, 5, 6), of(5, 10), of(0), of(0, -1, 0));
        matches("by entries, not by the nearest day", 9, of(9, 4, 9, 6, 5, 4, 5, 6), of(5, 10), of(0),
                of(0, 0, -1, -1));
        matches("by entries, not by the smallest day", 9, of(9, 4, 5, 4, 5, 6, 9, 6), of(5, 10), of(0),
                of(0, -1, -1, 0));
        matches("the first two are too far", 3, of(9, 4, 9, 6, 5, 4, 5, 6), of(5, 10), of(2), of(-1, -1, 0, 0));
    }

    // "for each LINE that is left, in the same order"
    private static void pairsForLinesInOrder() {
        matches("two for the line of the smaller day", 9, of(5, 4, 5, 6), of(6, 10, 5, 10), of(-1, 0), of(1, 1));
        matches("two for the smaller number", 9, of(5, 4, 5, 6), of(5, 10, 5, 10), of(0, -1), of(0, 0));
        matches("two and two", 9, of(5, 4, 5, 6, 5, 3, 5, 7), of(6, 10, 5, 10), of(2, 0), of(1, 1, 0, 0));
        matches("a leg of two is not in another two", 9, of(5, 4, 5, 6, 5, 5), of(5, 10, 5, 11), of(0, -1),
                of(0, 0, -1));
    }

    private static void singlesAheadOfPairs() {
        matches("one leg ahead of two", 0, of(5, 3, 5, 4, 5, 7), of(5, 7), of(2), of(-1, -1, 0));
        matches("a later line's one leg ahead of two", 1, of(5, 3, 5, 4), of(5, 7, 6, 4), of(-1, 1), of(-1, 1));
        matches("one far leg ahead of two near ones", 9, of(5, 3, 5, 4, 14, 7), of(5, 7), of(2), of(-1, -1, 0));
        matches("two where the one is too far", 8, of(5, 3, 5, 4, 14, 7), of(5, 7), of(0), of(0, 0, -1));
        matches("two for the second line of an amount", 9, of(5, 3, 5, 4, 5, 7), of(5, 7, 5, 7), of(2, 0), of(1, 1, 0));
    }

    private static Tollgate closedSpend(int... amounts) {
        Tollgate x = Ledgers.ofAllKinds();
        for (int amount : amounts) {
            Ledgers.post(x, 0, 0, 3, amount, 0, -amount);
        }
        x.close(0, 4);
        return x;
    }

    private static void legsThatAreGone() {
        edges.answers("a closing's leg is matched", () -> closedSpend(9), 1, x -> {
            x.line(3, 0, -9);
            x.match(3, 0);
            return x.matched(0);
        });
        edges.answers("one that is gone is not", () -> closedSpend(9), -1, x -> {
            x.open();
            x.line(3, 0, -9);
            x.match(3, 0);
            return x.matched(0);
        });
        edges.answers("as the second of two it is not", () -> closedSpend(9, 1), -1, x -> {
            x.open();
            x.line(3, 0, -1);
            x.match(3, 0);
            return x.matched(0);
        });
        edges.answers("as the first of two it is not", () -> {
            Tollgate x = closedSpend(9);
            x.open();
            Ledgers.post(x, 0, 0, 3, 5, 0, -5);
            return x;
        }, -1, x -> {
            x.line(3, 0, -4);
            x.match(3, 0);
            return x.matched(0);
        });
        edges.answers("one behind it is", () -> {
            Tollgate x = closedSpend(9);
            x.open();
            x.close(0, 4);
            return x;
        }, 2, x -> {
            x.line(3, 0, -9);
            x.match(3, 0);
            return x.matched(0);
        });
    }

    // A leg above int is not the amount that it would wrap around to
    private static void legsAboveInt() {
        Edges.Made made = () -> Ledgers.closedAboveInt(1);
        edges.answers("one leg below int", made, 0, x -> {
            x.line(0, 0, -5);
            return x.match(0, 30);
        });
        edges.answers("two legs, one below int", () -> {
            Tollgate x = Ledgers.earnedAboveInt(1);
            Ledgers.post(x, 0, 0, 0, 9, 4, -9);
            x.close(0, 0);
            return x;
        }, 0, x -> {
            x.line(0, 0, 4);
            return x.match(0, 30);
        });
    }

    // "none of them is MATCHED at first", "This stays, till it is done anew for that ACCOUNT"
    private static void matchAnew() {
        Edges.Made made = () -> {
            Tollgate x = withLines(withLegs(5, 3, 5, 4, 9, 3), 5, 7, 9, 3);
            x.match(0, 0);
            return x;
        };
        edges.tells("anew: what is matched", made, 0, x -> x.left(0, 1));
        edges.answers("anew: the same again", made, 2, x -> x.match(0, 0));
        edges.answers("anew: a line more takes a leg of two", made, 2, x -> {
            x.line(0, 5, 4);
            return x.match(0, 0);
        });
        edges.answers("anew: the line of two is not matched any more", made, -1, x -> {
            x.line(0, 5, 4);
            x.match(0, 0);
            return x.matched(0);
        });
        edges.answers("anew: the first of the two is free", made, -1, x -> {
            x.line(0, 5, 4);
            x.match(0, 0);
            return x.ofLeg(0, 0, 3);
        });
        edges.answers("anew: within less", () -> {
            Tollgate x = withLines(withLegs(5, 3, 7, 1, 7, 1), 6, 3, 6, 2);
            x.match(0, 1);
            return x;
        }, 0, x -> x.match(0, 0));
        edges.answers("anew: within less, the legs are free", () -> {
            Tollgate x = withLines(withLegs(5, 3, 7, 1, 7, 1), 6, 3, 6, 2);
            x.match(0, 1);
            return x;
        }, 3, x -> {
            x.match(0, 0);
            return x.left(0, 2);
        });
    }

    private static void matchStays() {
        stays("a nearer leg", x -> Ledgers.post(x, 6, 0, 0, 3, 4, -3));
        stays("a line of a smaller day", x -> x.line(0, 5, 3));
        stays("turnBack", x -> x.turnBack(0));
        stays("pass", x -> x.pass(364));
        stays("close", x -> x.close(0, 4));
        stays("close and open", x -> x.close(0, 4) + x.open());
        stays("wouldMatch", x -> x.wouldMatch(0, 0));
        stays("match of another account", x -> x.match(4, 0));
        stays("a match that is refused", x -> Edges.outcome(x, y -> y.match(0, 31)).length());
    }

    private static void stays(String edge, Edges.Call call) {
        Edges.Made made = () -> {
            Tollgate x = withLines(withLegs(5, 3), 6, 3);
            x.match(0, 1);
            call.on(x);
            return x;
        };
        edges.answers("matched stays with " + edge, made, 0, x -> x.matched(0));
        edges.answers("the leg's line stays with " + edge, made, 0, x -> x.ofLeg(0, 0, 3));
    }

    private static void matchOfOneAccount() {
        Edges.Made made = () -> {
            Tollgate x = withLegs(5, 3);
            x.line(0, 5, -3);
            x.line(4, 5, -3);
            x.line(4, 5, 3);
            x.line(0, 5, 3);
            return x;
        };
        edges.answers("another account's leg is not matched", made, -1, x -> {
            x.match(0, 30);
            return x.matched(0);
        });
        edges.answers("only its own lines are counted", made, 1, x -> {
            x.match(0, 0);
            return x.match(4, 0);
        });
        edges.answers("another account's lines are not matched", made, -1, x -> {
            x.match(0, 0);
            return x.matched(1);
        });
        edges.answers("another account's lines stay matched", made, 3, x -> {
            x.match(0, 0);
            x.match(4, 0);
            return x.ofLeg(0, 0, 3);
        });
    }

    private static void matchFull() {
        Edges.Made made = () -> {
            Tollgate x = Ledgers.ofAllKinds();
            for (int entry = 0; entry < 10; entry++) {
                Ledgers.post(x, entry, 0, 0, 1, 0, 1, 0, 1, 0, 1, 4, -4);
            }
            for (int line = 39; line >= 0; line--) {
                x.line(0, line / 4, 1);
            }
            return x;
        };
        edges.answers("match: forty lines", made, 40, x -> x.match(0, 0));
        edges.answers("match: the fortieth line is the first", made, 0, x -> {
            x.match(0, 0);
            return x.matched(39);
        });
        edges.answers("match: lines of a day by numbers", made, 36, x -> {
            x.match(0, 0);
            return x.ofLeg(0, 0, 3);
        });
    }

    // Promise 21
    private static void leftArguments() {
        Edges.Made made = () -> withLines(withLegs(0, 5), 0, 5);
        edges.range("left: account", made, 0, 4, Edges.INDEX, (x, account) -> x.left(account, 0));
        edges.range("left: what", made, 0, 4, Edges.ARGUMENT, (x, what) -> x.left(0, what));
        edges.refused("left: index ahead of argument", made, Edges.INDEX, x -> x.left(5, 5));
    }

    private static void left(String edge, Edges.Made made, long... due) {
        for (int what = 0; what < due.length; what++) {
            int w = what;
            edges.tells("left " + what + ": " + edge, made, due[what], x -> x.left(0, w));
        }
    }

    private static void leftAnswers() {
        left("nothing", Ledgers::ofAllKinds, 0, 0, 0, 0, 0);
        left("nothing matched yet", () -> withLines(withLegs(0, 5, 0, 7, 0, -2), 0, 7, 0, -9, 0, 5, 0, 30),
                4, 4, 3, 33, 10);
        left("one leg and two", () -> {
            Tollgate x = withLines(withLegs(0, 5, 0, 7, 0, -2), 0, 7, 0, -9, 0, 3, 0, 30);
            x.match(0, 0);
            return x;
        }, 4, 2, 0, 21, 0);
        left("all", () -> {
            Tollgate x = withLines(withLegs(0, 5), 0, 5);
            x.match(0, 0);
            return x;
        }, 1, 0, 0, 0, 0);
        left("lines of another account", () -> {
            Tollgate x = Ledgers.ofAllKinds();
            x.line(1, 0, 5);
            return x;
        }, 0, 0, 0, 0, 0);
        left("a draft", () -> withLegsDrafted(), 0, 0, 0, 0, 0);
        left("legs above int", () -> Ledgers.closedAboveInt(-1), 0, 0, 1, 0, Ledgers.ABOVE_INT);
        left("legs that are gone", () -> {
            Tollgate x = Ledgers.closedAboveInt(-1);
            x.open();
            return x;
        }, 0, 0, 0, 0, 0);
        left("the greatest sum of lines", () -> {
            Tollgate x = Ledgers.ofAllKinds();
            for (int line = 0; line < 40; line++) {
                x.line(0, 0, -1000000);
            }
            return x;
        }, 40, 40, 0, -40000000, 0);
    }

    private static Tollgate withLegsDrafted() {
        Tollgate x = Ledgers.ofAllKinds();
        Ledgers.drafted(x, 0, 0, 0, 5, 4, -5);
        return x;
    }

    // Promise 22
    private static void matchedArguments() {
        edges.refused("matched: no lines", () -> withLegs(0, 5), Edges.INDEX, x -> x.matched(0));
        edges.range("matched: line", () -> withLineCount(3), 0, 2, Edges.INDEX, Tollgate::matched);
        edges.range("matched: line of forty", () -> withLineCount(40), 0, 39, Edges.INDEX, Tollgate::matched);
    }

    private static void matchedAnswers() {
        edges.tells("matched: not asked yet", () -> withLines(withLegs(0, 5), 0, 5), -1, x -> x.matched(0));
        edges.tells("matched: the first of two legs", () -> {
            Tollgate x = withLines(withLegs(0, 1, 0, 2, 0, 9, 0, 3), 0, 5);
            x.match(0, 0);
            return x;
        }, 1, x -> x.matched(0));
        edges.tells("matched: the sixtieth entry", () -> {
            Tollgate x = Ledgers.withEntries(59);
            Ledgers.post(x, 0, 0, 0, 5, 4, -5);
            x.line(0, 0, 5);
            x.match(0, 0);
            return x;
        }, 59, x -> x.matched(0));
    }
}
