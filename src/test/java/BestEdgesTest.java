/** Sentences about BEST, REST, answers and replies that name an edge, each with its own test. */
public final class BestEdgesTest {
    private static final int NONE = StrikeDays.NONE;

    public static void main(String[] args) {
        takeIfNoWorse();
        bestOfMenOverAllPlans();
        setsThatOfferedAlike();
        aheadOfNotice();
        theLeastOfAlikeOffers();
        theSetThatDidNotTakeYet();
        theJudgeComesLikewise();
        notAgainstAVote();
        restIfNoneIsGreater();
        restTellsTheFirst();
        answersOutsideTheDays();
        answersOfDaysThatWereInside();
        answersWhenAllTook();
        answersOfSortsThatThereAre();
        answersCountChanges();
        repliesOutsideTheDays();
        repliesOfSortsThatThereAre();
        repliesTheLeastOfAnySet();
        roundsTillRest();
        Check.close();
    }

    private static void takeIfNoWorse() {
        Check.promise("take, if that is no worse than to go on at its best");
        StrikeDays x = Check.level("m1,0o1,0v10h10l2w0", 0, 0);
        Check.numbers(x, 0, 0, 9, 10);
        Check.fraction(x, "90 on either day", x.best(0, 0, 0), 90, 1);
        x.reply(1, 0);
        Check.numbersAre(x, 1, 0, 9, 10, 13);
        Check.numbers(x, 0, 0, 8, 10);
        x.reply(1, 0);
        Check.numbersAre(x, 1, 0, 13, 10, 13);
        // Behind the LAST day 10 times 9 as well.
        x = Check.level("m1,0o1,0v10h10l1w10", 9, 0);
        x.reply(1, 0);
        Check.numbersAre(x, 1, 0, 9, 13);
        Check.fraction(x, "90 behind the LAST day", x.best(0, 0, 0), 90, 1);
        x.set(0, 0, 1, 8);
        x.reply(1, 0);
        Check.numbersAre(x, 1, 0, 13, 13);
        Check.fraction(x, "90 behind the LAST day, 80 on it", x.best(0, 0, 0), 90, 1);
        // A day more costs 10: 80 is no worse.
        x = Check.level("m1,10o1,0v10h10l1w10", 8, 0);
        x.reply(1, 0);
        Check.numbersAre(x, 1, 0, 8, 13);
        x = Check.level("m1,9o1,0v10h10l1w10", 8, 0);
        x.reply(1, 0);
        Check.numbersAre(x, 1, 0, 13, 13);
    }

    private static void bestOfMenOverAllPlans() {
        Check.promise("the greatest WORTH");
        StrikeDays x = Check.level("m1,3o1,0v10h9l3w4", 0, 0);
        Check.numbers(x, 0, 0, 5, 6, 4);
        x.judge(2, 7);
        x.best(0, 0, 0);
        long upper = x.upper();
        long lower = x.lower();
        boolean reached = false;
        for (int plan = 0; plan < 8; plan++) {
            for (int day = 1; day <= 3; day++) {
                x.set(1, 0, day, (plan >> day - 1 & 1) == 1 ? 0 : 13);
            }
            x.worth(0, 1, 0, 0);
            Check.due("no plan is worth more", x.upper() * lower <= upper * x.lower() ? 1 : 0, 1);
            reached |= x.upper() == upper && x.lower() == lower;
        }
        Check.due("one is worth as much", reached ? 1 : 0, 1);
        x.reply(1, 0);
        Check.fraction(x, "the reply is", x.worth(0, 1, 0, 0), upper, lower);
    }

    private static void setsThatOfferedAlike() {
        Check.promise("on each day, for each set of SORTS of OWNERS that offered alike till now");
        // On day 2 the first SORT offers 12, the others 0: who they are is seen on day 1, or not.
        StrikeDays x = Check.level("m1,0o1,0o1,0o2,0v10h10l2w0", 0, 0);
        x.set(0, 0, 2, 12);
        int[][] onDayOne = {{3, 3, 3}, {4, 3, 3}, {3, 3, 2}, {3, 4, 5}};
        // A quarter of 108 is less than 30; 108, 30, 30; half of 108 is more than 30, and 20; 108, 40, 50.
        long[][] due = {{30, 1}, {99, 2}, {37, 1}, {62, 1}};
        for (int i = 0; i < onDayOne.length; i++) {
            for (int s = 0; s < 3; s++) {
                x.set(0, s, 1, onDayOne[i][s]);
            }
            Check.fraction(x, "day 1 as seen " + i, x.best(0, 0, 0), due[i][0], due[i][1]);
        }
    }

    private static void aheadOfNotice() {
        Check.promise("(ahead of NOTICE nothing is offered, nor seen)");
        StrikeDays x = Check.level("m1,0o1,0o1,0v10h10l3w0", 0, 0);
        Check.numbers(x, 0, 0, 12, 3, 9);
        Check.numbers(x, 0, 1, 11, 3, 0);
        Check.fraction(x, "12 and 11 on day 1", x.best(0, 0, 0), 115, 1);
        x.notice(2);
        // 3 times 9, or the mean of 9 times 8 and 0.
        Check.fraction(x, "alike on day 2", x.best(0, 0, 0), 36, 1);
        x.set(0, 1, 2, 4);
        Check.fraction(x, "told apart on day 2", x.best(0, 0, 0), 54, 1);
        x.notice(3);
        Check.fraction(x, "on day 3 alone", x.best(0, 0, 0), 36, 1);
        x.notice(4);
        Check.fraction(x, "never", x.best(0, 0, 0), 0, 1);
        Check.fraction(x, "never, OWNERS", x.best(1, 1, 0), 70, 1);
    }

    private static void answerIs(StrikeDays x, int sort, int... due) {
        x.answer(0, 1);
        Check.numbersAre(x, 0, sort, due);
    }

    private static void theLeastOfAlikeOffers() {
        Check.promise("the offer with the greatest mean (the least of alike ones)");
        StrikeDays x = Check.level("m1,0o1,0v10h10l1w0", 12, 13);
        answerIs(x, 0, 0, 0);
        // 1 is taken: 9 times 10; 0 is not: 10 times 9.
        x = Check.level("m1,0o1,0v10h10l1w0", 12, 1);
        answerIs(x, 0, 0, 0);
        Check.fraction(x, "90 by either", x.best(1, 1, 0), 90, 1);
        x = Check.level("m1,0o1,1v10h10l1w0", 12, 1);
        answerIs(x, 0, 1, 0);
        Check.fraction(x, "90, for a day more costs 1", x.best(1, 1, 0), 90, 1);
        x = Check.level("m1,0o1,0v9h10l1w0", 12, 1);
        answerIs(x, 0, 0, 0);
        Check.fraction(x, "81 by none", x.best(1, 1, 0), 81, 1);
        // A WAGE of 12 behind the LAST day: 12 now is 0 times 10, as later.
        x = Check.level("m1,0o1,0v12h10l1w12", 5, 12);
        answerIs(x, 0, 0, 0);
        x = Check.level("m1,0o1,1v12h10l1w12", 5, 12);
        answerIs(x, 0, 12, 0);
    }

    private static void theSetThatDidNotTakeYet() {
        Check.promise("on each day, for the set of SORTS of MEN that did not take yet");
        StrikeDays x = Check.level("m1,0m1,0m2,0o1,9v20h10l3w12", 5, 13);
        Check.numbers(x, 1, 0, 0, 9, 9);
        Check.numbers(x, 1, 1, 6, 2, 9);
        Check.numbers(x, 1, 2, 12, 12, 3);
        // 0 to the first, 2 on day 2 to the second, 3 on day 3 to the third.
        answerIs(x, 0, 0, 2, 3, 0);
        // 200 by a quarter, 18 times 9 less 9 by a quarter, 17 times 8 less 18 by half.
        Check.fraction(x, "BEST", x.best(1, 1, 0), 589, 4);
        // If the first do not take on day 1, 6 goes to the second, 9 on day 2 to the first, 3 on day 3 to the third.
        x.set(1, 0, 1, 13);
        x.set(1, 1, 2, 9);
        answerIs(x, 0, 6, 9, 3, 0);
        // 140 by a quarter, 11 times 9 less 9 by a quarter, 17 times 8 less 18 by half.
        Check.fraction(x, "BEST of these", x.best(1, 1, 0), 233, 2);
    }

    private static void theJudgeComesLikewise() {
        Check.promise("The JUDGE comes likewise.");
        // A sure JUDGE on day 2 is 12 times 11: 11 on day 1 is as much.
        StrikeDays x = Check.level("m1,0o1,0v20h12l2w0", 11, 0);
        x.judge(12, 12);
        x.reply(1, 0);
        Check.numbersAre(x, 1, 0, 11, 11, 13);
        x.set(0, 0, 1, 10);
        x.reply(1, 0);
        Check.numbersAre(x, 1, 0, 13, 11, 13);
        Check.fraction(x, "he comes ahead of the offer of day 1", x.best(0, 0, 0), 144, 1);
        x.judge(6, 12);
        // Half of 132 and half of 121 on day 2 are 126 and a half: more than 120, less than 132.
        x.reply(1, 0);
        Check.numbersAre(x, 1, 0, 13, 11, 13);
        x.set(0, 0, 1, 11);
        x.reply(1, 0);
        Check.numbersAre(x, 1, 0, 11, 11, 13);
        Check.fraction(x, "half of 144, half of 132", x.best(0, 0, 0), 138, 1);
        // OWNERS: a sure JUDGE on day 2 leaves 8 times 11; 12 on day 1 leaves 8 times 12.
        x = Check.level("m1,0o1,0v20h12l2w0", 0, 12);
        x.judge(12, 12);
        answerIs(x, 0, 12, 0, 0);
        Check.fraction(x, "he comes ahead of it", x.best(1, 1, 0), 96, 1);
        x.judge(12, 11);
        // 9 times 11 is more than 8 times 12.
        answerIs(x, 0, 0, 0, 0);
    }

    private static void notAgainstAVote() {
        Check.promise("a TAKE (not VOTE)");
        StrikeDays x = Check.level("m1,0o1,0", 5, 5);
        x.way(1, 3);
        long before = x.digest();
        Check.finding(x, "best", 0, x.best(1, 1, 0), 3);
        Check.finding(x, "rest", 1, x.rest(0, 1), 3);
        Check.finding(x, "answer", 2, x.answer(0, 1), 3);
        Check.finding(x, "reply", 3, x.reply(1, 0), 3);
        Check.due("nothing changed", x.digest() == before ? 1 : 0, 1);
        Check.fraction(x, "worth", x.worth(0, 1, 0, 0), 100, 1);
        x.way(1, 2);
        Check.fraction(x, "best of a TAKE", x.best(1, 1, 0), 200, 1);
    }

    private static void restIfNoneIsGreater() {
        Check.promise("At REST are an OFFER and a TAKE, if no SORT of either side has a greater WORTH by its BEST.");
        // 90 for OWNERS by 1 taken and by 0 refused; MEN have 10 or nothing.
        StrikeDays x = Check.level("m1,0o1,0v10h10l1w0", 1, 1);
        Check.due("1 taken", x.rest(0, 1), NONE);
        x.set(0, 0, 1, 0);
        Check.due("0 refused", x.rest(0, 1), NONE);
        x.set(1, 0, 1, 2);
        x.set(0, 0, 1, 1);
        Check.due("1 refused: MEN would rather take it", x.rest(0, 1), 0);
        x.set(1, 0, 1, 1);
        x.set(0, 0, 1, 2);
        Check.due("2 offered: OWNERS would rather not", x.rest(0, 1), 10);
        x.judge(12, 0);
        Check.due("a sure JUDGE on day 1", x.rest(0, 1), NONE);
        x.judge(11, 0);
        Check.due("a JUDGE who is not sure", x.rest(0, 1), 10);
        x.judge(0, 0);
        x.notice(2);
        Check.due("NOTICE behind the LAST day", x.rest(0, 1), NONE);
    }

    private static int lowest(int set) {
        return Integer.numberOfTrailingZeros(set);
    }

    private static void restTellsTheFirst() {
        Check.promise("NONE, or 10 times the side, and the SORT that would rather do else (the first)");
        for (int men = 0; men < 8; men++) {
            for (int owners = 0; owners < 8; owners++) {
                // MEN lose by refusing 0, OWNERS by offering 1.
                StrikeDays x = Check.level("m1,1m2,1m3,1o1,0o2,0o3,0v10h10l1w0", 0, 0);
                for (int s = 0; s < 3; s++) {
                    x.set(1, s, 1, (men >> s & 1) == 1 ? 13 : 0);
                    x.set(0, s, 1, owners >> s & 1);
                }
                int due = men > 0 ? lowest(men) : owners > 0 ? 10 + lowest(owners) : NONE;
                Check.due("rest of " + men + ", " + owners, x.rest(0, 1), due);
            }
        }
    }

    private static void answersOutsideTheDays() {
        Check.promise("days ahead of NOTICE, behind LAST: 0");
        for (int last = 1; last <= 10; last++) {
            for (int notice = 1; notice <= 10; notice++) {
                StrikeDays x = Check.level("m1,0o1,99v50h10w0l" + last, 12, 7);
                x.notice(notice);
                int changed = x.answer(0, 1);
                Check.due("all ten, whatever 7 is offered", changed, 10);
                for (int day = 1; day <= 10; day++) {
                    Check.due("day " + day, x.at(0, 0, day), day == notice && day <= last ? 7 : 0);
                }
                Check.due("again", x.answer(0, 1), 0);
            }
        }
    }

    /** What an earlier answer found for a day is not there any more, if the day is outside now. */
    private static void answersOfDaysThatWereInside() {
        Check.promise("days ahead of NOTICE, behind LAST: 0, whatever was answered before");
        StrikeDays x = Check.level("m1,0m1,0o1,99v50h10w0l3", 0, 7);
        for (int day = 1; day <= 3; day++) {
            x.set(1, 1, day, 13);
        }
        x.set(1, 0, 1, 13);
        x.set(1, 0, 2, 13);
        x.set(1, 1, 2, 9);
        answerIs(x, 0, 0, 9, 7, 0);
        Check.write(x, 0, "m1,0m1,0o1,99v50h10w0l1");
        x.quarrel(0);
        Check.due("days 2 and 3 are behind LAST", x.answer(0, 1), 2);
        Check.numbersAre(x, 0, 0, 0, 0, 0, 0);
        Check.write(x, 0, "m1,0m1,0o1,99v50h10w0l3");
        x.quarrel(0);
        x.notice(3);
        Check.due("day 2 is ahead of NOTICE", x.answer(0, 1), 1);
        Check.numbersAre(x, 0, 0, 0, 0, 7, 0);
    }

    private static void answersWhenAllTook() {
        Check.promise("or when all SORTS of MEN took: 0");
        StrikeDays x = Check.level("m1,0m1,0o1,99v50h10w0l4", 12, 7);
        // The second SORT takes on day 2 alone: 0 on days 3 and 4.
        x.set(1, 1, 1, 13);
        x.set(1, 1, 3, 13);
        answerIs(x, 0, 7, 7, 0, 0, 0);
        x.set(1, 1, 2, 13);
        x.set(1, 1, 4, 9);
        answerIs(x, 0, 7, 0, 0, 9, 0);
    }

    private static void answersOfSortsThatThereAre() {
        Check.promise("SORTS that there are not stay");
        String sorts = "o1,99o1,99o1,99";
        for (int owners = 1; owners <= 3; owners++) {
            StrikeDays x = Check.level("m1,0v50h10w0l2" + sorts.substring(0, 5 * owners), 12, 7);
            Check.due("changed", x.answer(0, 1), 10 * owners);
            for (int s = 0; s < 3; s++) {
                Check.due("SORT " + s, x.at(0, s, 1), s < owners ? 7 : 12);
                Check.due("SORT " + s + " on day 10", x.at(0, s, 10), s < owners ? 0 : 12);
            }
        }
    }

    private static void answersCountChanges() {
        Check.promise("how many numbers changed");
        StrikeDays x = Check.level("m1,0o1,99v50h10w0l2", 0, 7);
        Check.due("7 for 0", x.answer(0, 1), 1);
        Check.due("none", x.answer(0, 1), 0);
        x.set(0, 0, 10, 1);
        Check.due("0 for 1 on day 10", x.answer(0, 1), 1);
        x.set(0, 1, 1, 5);
        Check.due("SORT 1 is not there", x.answer(0, 1), 0);
        x.set(1, 0, 1, 13);
        Check.due("7 a day later", x.answer(0, 1), 2);
        Check.numbersAre(x, 1, 0, 13, 7, 7);
    }

    private static void repliesOutsideTheDays() {
        Check.promise("none, and outside NOTICE to LAST: 13");
        for (int last = 1; last <= 10; last++) {
            for (int notice = 1; notice <= 10; notice++) {
                // A day costs 99: whatever is offered is taken.
                StrikeDays x = Check.level("m1,99o1,0h10w12l" + last, 3, 1);
                x.notice(notice);
                Check.due("all ten", x.reply(1, 0), 10);
                for (int day = 1; day <= 10; day++) {
                    Check.due("day " + day, x.at(1, 0, day), day >= notice && day <= last ? 3 : 13);
                }
                Check.due("again", x.reply(1, 0), 0);
            }
        }
        // 12 behind the LAST day: none is taken.
        StrikeDays x = Check.level("m1,0o1,0h40w12l3", 0, 13);
        Check.due("all are 13", x.reply(1, 0), 0);
        // 0 is taken as well as 12 is.
        x = Check.level("m1,99o1,0h40w0l3", 0, 13);
        Check.due("0 is taken", x.reply(1, 0), 3);
        Check.numbersAre(x, 1, 0, 0, 0, 0, 13);
        x = Check.level("m1,99o1,0h40w0l3", 12, 13);
        Check.due("12 is taken", x.reply(1, 0), 3);
        Check.numbersAre(x, 1, 0, 12, 12, 12, 13);
    }

    private static void repliesOfSortsThatThereAre() {
        Check.promise("(SORTS that there are not stay): how many numbers changed");
        String sorts = "m1,99m1,99m1,99";
        for (int men = 1; men <= 3; men++) {
            StrikeDays x = Check.level("o1,0h10w0l2" + sorts.substring(0, 5 * men), 3, 1);
            Check.due("changed", x.reply(1, 0), 10 * men);
            for (int s = 0; s < 3; s++) {
                Check.due("SORT " + s, x.at(1, s, 2), s < men ? 3 : 1);
                Check.due("SORT " + s + " on day 10", x.at(1, s, 10), s < men ? 13 : 1);
            }
            Check.due("none", x.reply(1, 0), 0);
            x.set(1, 0, 1, 4);
            Check.due("one", x.reply(1, 0), 1);
        }
    }

    private static void repliesTheLeastOfAnySet() {
        Check.promise("the least WAGE that any set of SORTS of OWNERS that offered alike offers on it");
        StrikeDays x = Check.level("m1,99o1,0o1,0o1,0h10w0l1", 9, 13);
        for (int s = 0; s < 3; s++) {
            x.set(0, s, 1, 4);
            x.reply(1, 0);
            Check.due("4 by SORT " + s, x.at(1, 0, 1), 4);
            x.set(0, s, 1, 9);
        }
        Check.promise("from NOTICE till that day (that one, too)");
        // Alike on day 1; on day 2 the one offers 5 and then 12, the other one 6 and then 0.
        x = Check.level("m1,0o1,0o1,0h10w0l3", 0, 13);
        Check.numbers(x, 0, 0, 1, 5, 12);
        Check.numbers(x, 0, 1, 1, 6, 0);
        x.reply(1, 0);
        Check.numbersAre(x, 1, 0, 13, 6, 0, 13);
        // Alike on day 2, too: the mean of 96 and 0 is more than 45, less than 54.
        x.set(0, 1, 2, 5);
        x.reply(1, 0);
        Check.numbersAre(x, 1, 0, 13, 13, 0, 13);
        x.set(0, 0, 2, 6);
        x.set(0, 1, 2, 6);
        x.reply(1, 0);
        Check.numbersAre(x, 1, 0, 13, 6, 0, 13);
        // Told apart on day 1, 6 on day 2 is taken of the one alone; ahead of NOTICE day 1 is not seen.
        x.set(0, 1, 1, 0);
        x.set(0, 0, 2, 5);
        x.set(0, 1, 2, 5);
        x.reply(1, 0);
        Check.numbersAre(x, 1, 0, 13, 5, 0, 13);
        x.notice(2);
        x.reply(1, 0);
        Check.numbersAre(x, 1, 0, 13, 13, 0, 13);
    }

    private static void roundsTillRest() {
        Check.promise("27, 28 rounds of answers till rest");
        StrikeDays x = Check.level("m1,99o1,99v50h10w0l3", 12, 0);
        Check.due("0 is taken at once", x.answer(0, 1), 10);
        Check.due("at rest", x.rest(0, 1), NONE);
        Check.due("what is taken on other days, too", x.reply(1, 0), 7);
        Check.due("still at rest", x.rest(0, 1), NONE);
        Check.due("nothing to answer", x.answer(0, 1), 0);
        Check.due("nothing to reply", x.reply(1, 0), 0);
    }
}
