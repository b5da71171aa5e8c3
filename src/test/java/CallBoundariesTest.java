/**
 * What the document's parts 2 to 4 and promises 5 to 26 say of boundaries, a part for each such sentence: the case at
 * the boundary and the one just beyond it. The part's name is the sentence.
 */
public final class CallBoundariesTest extends Checks {
    private static final String TOWN = "town careful;";
    private static final int MIN = Integer.MIN_VALUE;
    private static final int MAX = Integer.MAX_VALUE;
    /** Numbers far from all that there is, some of which an index or a shift would take for a small one. */
    private static final int[] FAR = {MIN, MIN + 1, -100, -32, -2, 32, 64, 100, 1 << 16, MAX - 1, MAX};

    public static void main(String[] args) {
        needs();
        lending();
        fillers();
        tonights();
        bothTowns();
        ways();
        sendings();
        refusedSendings();
        draws();
        whoDraws();
        drunkClerks();
        slowAndLazyClerks();
        daysGoBy();
        undone();
        undoneSeed();
        lostTrunks();
        lostLowestTerms();
        nights();
        toursOnDays();
        toursOnWays();
        toursOfLikeOnes();
        toursKept();
        sparedTrunks();
        unopenedTrunks();
        unopenedRefused();
        status();
        images();
        counts();
        factsOfTownsAndTrunks();
        noSuchThings();
        farNumbers();
        manyCalls();
        report();
    }

    // ---- part 2, promises 9 to 12

    private static void needs() {
        start("each NEED is filled by a THING of its SORT, or of one LIKE it (at its SHAME)");
        tell(TOWN + "trunk 0;thing 1 0;thing 2 0;thing 3 0;play 1 3;like 1 2 4;like 2 3 5;");
        price(0, 0, 4, 0);
        price(0, 0, 2, 5);
        // what may stand for one that may stand for it may not
        price(0, 0, 1, NONE);
        price(0, 0, 3, 5);
        price(0, 0, 7, 0);
        start("none twice");
        tell(TOWN + "trunk 0;thing 1 0;thing 1 0;thing 1 0;thing 1 0;play 1 1 1 1 1;play 1 1 1;play 1 1;");
        price(2, 0, 1, 0);
        price(1, 0, 1, NONE);
        price(1, 0, 3, 0);
        price(0, 0, 7, NONE);
        price(0, 0, 15, 0);
        start("the least of all, together");
        // the thing of the very sort for the first need would leave 50 for the second one
        tell(TOWN + "trunk 0;thing 1 0;thing 2 0;play 1 1 3;like 2 1 4;like 1 3 5;like 2 3 50;");
        price(0, 0, 3, 9);
        tell(TOWN + "trunk 0;thing 1 0;thing 2 0;play 1 1 3;like 2 1 4;like 1 3 5;like 2 3 8;");
        price(0, 0, 3, 8);
        start("the least of all, of the greatest SHAMES and COSTS");
        tell("town careful lends 3 99;trunk 0;thing 1 0;play 1 2 3 4 5;like 1 2 99;like 1 5 98;");
        price(0, 0, 1, 3 * 99 + 98);
        tell("town careful lends 4 99;trunk 0;thing 1 0;play 1 2 3 4 5;like 1 2 99;like 1 5 98;");
        price(0, 0, 0, 4 * 99);
        start("none, if it can't be");
        tell(TOWN + "trunk 0;thing 1 0;play 1 1;play 1 2;play 1 1 2;");
        price(0, 0, 1, 0);
        price(0, 0, 0, NONE);
        price(1, 0, 1, NONE);
        price(2, 0, 1, NONE);
        start("none, if it can't be: of SORT 0, too");
        tell(TOWN + TOWN + "trunk 0;trunk 0;thing 1 0;thing 0 1;play 1 0;play 1 1 0;");
        price(0, 0, 1, NONE);
        price(0, 0, 2, 0);
        price(1, 0, 1, NONE);
        price(1, 0, 3, 0);
        tonight(0, 0, 0);
        tonight(1, NONE, NONE);
        filled(0, 1, 0, NONE);
        filled(1, 0, 0, 0);
        filled(1, 0, 1, 1);
        tell(TOWN + "trunk 0;thing 1 0;play 1 0;play 1 1 0;");
        tonight(0, NONE, NONE);
        filled(1, 0, 0, NONE);
        start("(A THING of the very SORT has no SHAME.)");
        tell("town careful lends 9 0;trunk 0;thing 0 0;thing 19 0;play 1 0;play 1 19;like 0 19 1;like 19 0 1;");
        price(0, 0, 1, 0);
        price(1, 0, 2, 0);
        filled(0, 0, 0, 0);
        filled(1, 0, 0, 1);
        start("Promise 9: by a set of THINGS (bits), wherever they are");
        tell(TOWN + TOWN + "trunk 0;trunk 1;thing 1 0;thing 2 1;play 1 1 2;");
        price(0, 0, 3, 0);
        price(0, 1, 3, 0);
        price(0, 0, 2, NONE);
        start("Promise 9: IllegalArgumentException (behind that): bits of THINGS that there aren't");
        tell(TOWN + "trunk 0;" + "thing 1 0;".repeat(10) + "play 1 1;");
        String before = state();
        price(0, 0, 1023, 0);
        price(0, 0, 1024, BAD);
        price(0, 0, 1025, BAD);
        price(0, 0, -1, BAD);
        price(0, 0, MIN, BAD);
        price(0, 0, MIN + 1, BAD);
        price(0, 0, MAX, BAD);
        price(0, 1, 1024, MISSING);
        price(0, -1, 1024, MISSING);
        price(1, 0, 1024, MISSING);
        price(-1, 0, 1024, MISSING);
        unchanged(before);
        tell(TOWN + "play 1 1;");
        price(0, 0, 0, NONE);
        price(0, 0, 1, BAD);
    }

    private static void lending() {
        start("or by one that the TOWN LENDS (at its COST, so many at most)");
        for (int lends = 0; lends <= 4; lends++) {
            tell("town careful lends " + lends + " 7;play 1 1;play 1 1 2;play 1 1 2 3;play 1 1 2 3 4;");
            for (int play = 0; play < 4; play++) {
                price(play, 0, 0, play < lends ? 7 * (play + 1) : NONE);
            }
        }
        start("so many at most: what is lent in one TOWN is not in another");
        tell("town careful lends 2 1;town careful lends 1 2;play 1 1 1;play 1 1;");
        price(0, 0, 0, 2);
        price(0, 1, 0, NONE);
        price(1, 1, 0, 2);
        start("so many at most: THINGS fill what can't be lent");
        tell("town careful lends 1 0;trunk 0;thing 1 0;play 1 1 2;like 1 2 60;");
        price(0, 0, 1, 0);
        tell("town careful lends 1 70;trunk 0;thing 1 0;thing 1 0;play 1 1 2;like 1 2 60;");
        price(0, 0, 1, 70);
        price(0, 0, 3, 60);
    }

    private static void fillers() {
        start("By what: of like ones the first as a row by NEEDS");
        tell(TOWN + "trunk 0;thing 1 0;thing 1 0;thing 1 0;play 1 1 1;");
        filled(0, 0, 0, 0);
        filled(0, 0, 1, 1);
        start("of like ones the first as a row: a first NEED by a first THING at a SHAME, if it costs the same together");
        tell(TOWN + "trunk 0;thing 1 0;thing 2 0;play 1 1 2;play 1 2 1;like 1 2 0;like 2 1 0;");
        filled(0, 0, 0, 0);
        filled(0, 0, 1, 1);
        filled(1, 0, 0, 0);
        filled(1, 0, 1, 1);
        start("(of THINGS; lent ones behind all): where a lent one costs the same");
        tell("town careful lends 4 5;trunk 0;thing 1 0;play 1 2;play 1 3;play 1 2 2;like 1 2 5;like 1 3 6;");
        filled(0, 0, 0, 0);
        filled(1, 0, 0, 99);
        filled(2, 0, 0, 0);
        filled(2, 0, 1, 99);
        start("lent ones behind all: behind THING 9, too");
        tell("town careful lends 4 0;trunk 0;" + "thing 1 0;".repeat(9) + "thing 2 0;play 1 2;play 1 2 2;play 1 2 1 1 1;");
        filled(0, 0, 0, 9);
        filled(1, 0, 1, 99);
        filled(2, 0, 0, 9);
        filled(2, 0, 1, 0);
        filled(2, 0, 3, 2);
        start("By what: each NEED behind one that has a SHAME or a COST");
        tell("town careful lends 1 7;trunk 0;thing 1 0;thing 4 0;play 1 2 3;play 1 9 3;play 1 3 9;like 1 2 5;like 4 3 6;");
        filled(0, 0, 0, 0);
        filled(0, 0, 1, 1);
        filled(1, 0, 0, 99);
        filled(1, 0, 1, 1);
        filled(2, 0, 0, 1);
        filled(2, 0, 1, 99);
        start("By what: no THING twice, though it would cost the same");
        tell(TOWN + "trunk 0;thing 1 0;thing 4 0;play 1 2 3;play 1 3 2;like 1 2 1;like 1 3 1;like 4 2 1;");
        filled(0, 0, 0, 1);
        filled(0, 0, 1, 0);
        filled(1, 0, 0, 0);
        filled(1, 0, 1, 1);
        start("By what: no THING that isn't there, of SORT 0, too");
        tell(TOWN + "trunk 0;thing 0 0;thing 1 0;play 1 1 0;like 0 1 0;");
        filled(0, 0, 0, 1);
        filled(0, 0, 1, 0);
        start("By what: no more lent ones than the TOWN LENDS, though it would cost the same");
        // the one that is lent goes to the first need; two of them would leave thing 0 to the second one
        tell("town careful lends 1 5;trunk 0;thing 1 0;thing 4 0;play 1 7 2 3;like 1 2 1;like 4 2 3;like 1 3 3;");
        price(0, 0, 3, 11);
        filled(0, 0, 0, 99);
        filled(0, 0, 1, 1);
        filled(0, 0, 2, 0);
        tell("town careful lends 2 5;trunk 0;thing 1 0;thing 4 0;play 1 7 2 3;like 1 2 1;like 4 2 3;like 1 3 3;");
        filled(0, 0, 1, 0);
        filled(0, 0, 2, 99);
        start("By what: on the last of four NEEDS");
        tell("town careful lends 2 5;trunk 0;thing 1 0;thing 2 0;play 1 7 8 3 4;like 1 3 2;like 1 4 3;like 2 3 4;like 2 4 6;");
        // 1 for 4 and 2 for 3 cost 7, 1 for 3 and 2 for 4 cost 8
        price(0, 0, 3, 17);
        filled(0, 0, 0, 99);
        filled(0, 0, 1, 99);
        filled(0, 0, 2, 1);
        filled(0, 0, 3, 0);
        start("Promise 10: NONE: the PLAY has no PRICE");
        tell("town careful lends 1 5;trunk 0;thing 1 0;play 1 1 2;play 1 1 2 2;");
        filled(0, 0, 0, 0);
        filled(0, 0, 1, 99);
        for (int i = 0; i < 3; i++) {
            filled(1, 0, i, NONE);
        }
        start("Promise 10: NoSuchElementException: also no such NEED");
        tell("town careful lends 9 0;play 1 1;play 1 1 1 1 1;");
        String before = state();
        filled(0, 0, 0, 99);
        filled(0, 0, 1, MISSING);
        filled(0, 0, -1, MISSING);
        filled(1, 0, 3, 99);
        filled(1, 0, 4, MISSING);
        filled(1, 0, MIN, MISSING);
        filled(1, 0, MAX, MISSING);
        filled(2, 0, 0, MISSING);
        filled(-1, 0, 0, MISSING);
        filled(0, 1, 0, MISSING);
        filled(0, -1, 0, MISSING);
        unchanged(before);
        start("Promise 10: no such NEED, of a PLAY without a PRICE, too");
        tell(TOWN + "play 1 1;");
        filled(0, 0, 0, NONE);
        filled(0, 0, 1, MISSING);
    }

    private static void tonights() {
        start("TONIGHT in a TOWN: with all THINGS of TRUNKS that are there now");
        tell(TOWN + TOWN + "train 0 1 2;trunk 0;trunk 1;thing 1 0;thing 2 1;play 1 1 2;play 1 2;");
        tonight(0, NONE, NONE);
        tonight(1, 1, 0);
        filled(0, 1, 0, NONE);
        send(0, 1, 2);
        days(1, 1);
        tonight(0, NONE, NONE);
        tonight(1, 1, 0);
        days(1, 2);
        tonight(1, 0, 0);
        filled(0, 1, 0, 0);
        filled(0, 1, 1, 1);
        undo(true);
        tonight(1, 1, 0);
        start("Of PLAYS whose CAST is no more than TROUPE");
        String world = "town careful lends 1 3;play 20 1;";
        tell(world + "troupe 20;");
        tonight(0, 0, 3);
        tell(world + "troupe 19;");
        tonight(0, NONE, NONE);
        tell("town careful lends 1 3;play 11 1;");
        tonight(0, 0, 3);
        tell("town careful lends 1 3;play 12 1;");
        tonight(0, NONE, NONE);
        tell("town careful lends 1 3;play 1 1;troupe 1;");
        tonight(0, 0, 3);
        start("CAST has no part in PRICE and by what it is filled");
        tell("town careful lends 1 3;play 20 1;troupe 1;");
        price(0, 0, 0, 3);
        filled(0, 0, 0, 99);
        start("that of least PRICE, of like ones the least");
        tell("town careful lends 4 1;play 1 1 1;play 1 1;play 1 2;play 1 1 1 1;");
        tonight(0, 1, 1);
        tell("town careful lends 4 0;play 12 1;play 1 1 1 1 1;play 1 1;");
        tonight(0, 1, 0);
        start("that of least PRICE: in each of five TOWNS its own");
        tell("town careful lends 2 9;town careful lends 2 8;town careful lends 2 7;town careful lends 2 6;"
                + "town careful lends 2 5;play 1 1 1;play 1 1;play 1 1 1 1;play 1 1;");
        for (int town = 0; town < 5; town++) {
            tonight(town, 1, 9 - town);
        }
        for (int town = 0; town < 5; town++) {
            tonight(town, 1, 9 - town);
            for (int other = 0; other < 5; other++) {
                both(town, other, town == other ? NONE : 9, town == other ? NONE : 18 - town - other);
            }
        }
        start("Promise 11: NONE: none");
        tell(TOWN);
        tonight(0, NONE, NONE);
        tell(TOWN + "play 1 1;");
        tonight(0, NONE, NONE);
        start("Promise 11: NoSuchElementException: also another what");
        tell(TOWN);
        String before = state();
        for (int what : new int[] {-1, 2, MIN, MAX}) {
            due("tonight(0, " + what + ")", MISSING, () -> x.tonight(0, what));
        }
        tonight(1, MISSING, MISSING);
        tonight(-1, MISSING, MISSING);
        unchanged(before);
    }

    private static void bothTowns() {
        String two = "town careful lends 1 4;town careful lends 2 3;";
        start("TWO TOWNS on one night (unlike ones)");
        tell(two + "play 1 1;");
        both(0, 1, 0, 7);
        both(0, 0, NONE, NONE);
        both(1, 1, NONE, NONE);
        start("two PLAYS (perhaps like ones), their CASTS no more than TROUPE together");
        tell(two + "play 20 1;troupe 40;");
        both(0, 1, 0, 7);
        tell(two + "play 20 1;troupe 39;");
        both(0, 1, NONE, NONE);
        tell(two + "play 5 1;play 6 1 1;troupe 11;");
        both(0, 1, 0, 7);
        tell(two + "play 6 1;play 5 1 1;troupe 11;");
        // play 1 can't be given in town 0, and play 0 twice is one too many
        both(0, 1, 1, 10);
        both(1, 0, 8, 10);
        tell(two + "play 6 1;play 5 1 1;troupe 10;");
        both(0, 1, NONE, NONE);
        tell(two + "play 6 1;play 5 1 1;troupe 12;");
        both(0, 1, 0, 7);
        start("of least PRICES together, of like ones the first as a row");
        tell(two + "play 1 1;play 1 2;play 1 3;play 1 4;");
        both(0, 1, 0, 7);
        tell(two + "play 12 1;play 12 2;play 12 3;play 1 4;");
        both(0, 1, 27, 7);
        tell("town careful lends 4 1;town careful lends 4 1;play 2 1 1;play 9 1;play 1 1 1;troupe 10;");
        // 1 and 2 are 3 and so are 2 and 1; 0 and 1 are 11 in cast
        both(0, 1, 10, 3);
        start("one in each: none, if one of them can have none");
        tell("town careful lends 1 4;" + TOWN + "play 1 1;");
        both(0, 1, NONE, NONE);
        both(1, 0, NONE, NONE);
        tell("town careful lends 1 4;" + TOWN + "trunk 1;thing 1 0;play 1 1;");
        both(0, 1, 0, 4);
        start("Promise 12: NoSuchElementException: also another what");
        tell(two + "play 1 1;");
        String before = state();
        for (int what : new int[] {-1, 2, MIN, MAX}) {
            due("both(0, 1, " + what + ")", MISSING, () -> x.both(0, 1, what));
            due("both(0, 0, " + what + ")", MISSING, () -> x.both(0, 0, what));
        }
        both(0, 2, MISSING, MISSING);
        both(2, 0, MISSING, MISSING);
        both(2, 2, MISSING, MISSING);
        both(0, -1, MISSING, MISSING);
        both(-1, 0, MISSING, MISSING);
        unchanged(before);
    }

    // ---- part 3, promises 8 and 13 to 18

    private static void ways() {
        start("A WAY: by TRAINS, of fewest DAYS in all");
        tell(TOWN.repeat(5) + "train 0 4 9;train 0 1 2;train 1 2 2;train 2 3 2;train 3 4 2;");
        way(0, 4, 8);
        clerk(0, 4, NONE, 4);
        tell(TOWN.repeat(5) + "train 0 4 7;train 0 1 2;train 1 2 2;train 2 3 2;train 3 4 2;");
        way(0, 4, 7);
        clerk(0, 4, NONE, 1);
        tell(TOWN.repeat(5) + "train 4 3 9;train 3 2 9;train 2 1 9;train 1 0 9;");
        way(4, 0, 36);
        for (int over = 0; over < 5; over++) {
            start("A WAY: by TRAINS, over each TOWN: " + over);
            int from = (over + 1) % 5;
            int to = (over + 2) % 5;
            tell(TOWN.repeat(5) + "train " + from + " " + over + " 3;train " + over + " " + to + " 4;");
            way(from, to, 7);
            way(to, from, NONE);
            clerk(from, to, NONE, 2);
            clerk(from, to, 1, over);
        }
        allWays("train 0 1 1;train 1 2 1;train 2 3 1;train 3 4 1;train 4 0 1;");
        allWays("train 0 4 9;train 4 3 8;train 3 2 7;train 2 1 6;train 1 0 5;");
        allWays("train 0 1 2;train 1 0 3;train 1 2 4;train 2 1 5;train 2 3 6;train 3 2 7;train 3 4 8;train 4 3 9;");
        allWays("train 4 0 1;train 3 0 2;train 2 0 3;train 1 0 4;");
        allWays("train 0 4 1;train 1 4 2;train 2 4 3;train 3 4 4;");
        allWays("train 1 2 1;train 1 4 1;train 3 4 5;");
        allWays("train 0 2 1;train 2 0 1;train 2 4 9;train 1 3 1;train 3 1 2;");
        start("of like ones the first as a row of TOWNS");
        tell(TOWN.repeat(5) + "train 0 4 8;train 0 1 2;train 1 2 2;train 2 3 2;train 3 4 2;");
        clerk(0, 4, NONE, 4);
        for (int i = 0; i < 4; i++) {
            clerk(0, 4, i, i);
        }
        tell(TOWN.repeat(5) + "train 4 0 4;train 4 1 2;train 4 3 1;train 3 0 3;train 1 0 2;");
        clerk(4, 0, NONE, 1);
        tell(TOWN.repeat(5) + "train 0 3 4;train 3 1 1;train 0 2 2;train 2 4 1;train 4 1 2;");
        // 0 2 4 1 stands ahead of 0 3 1
        clerk(0, 1, NONE, 3);
        clerk(0, 1, 1, 2);
        clerk(0, 1, 2, 4);
        start("Promise 8: DAYS of a WAY (0: to itself); NONE: there is none");
        tell(TOWN.repeat(3) + "train 0 1 1;");
        way(0, 0, 0);
        way(2, 2, 0);
        way(0, 1, 1);
        way(1, 0, NONE);
        way(0, 2, NONE);
        way(2, 0, NONE);
        way(0, 3, MISSING);
        way(3, 0, MISSING);
        way(3, 3, MISSING);
        way(-1, -1, MISSING);
        start("Promise 17: How many CLERKS (i NONE) a WAY has; the i-th one's TOWN");
        tell(TOWN.repeat(5) + "train 4 3 9;train 3 2 9;train 2 1 9;train 1 0 9;");
        clerk(4, 0, NONE, 4);
        for (int i = 0; i < 4; i++) {
            clerk(4, 0, i, 4 - i);
        }
        clerk(1, 0, NONE, 1);
        clerk(1, 0, 0, 1);
        clerk(1, 1, NONE, 0);
        start("Promise 17: NoSuchElementException: also there is no WAY, no such one");
        tell(TOWN.repeat(5) + "train 4 3 9;train 3 2 9;train 2 1 9;train 1 0 9;");
        String before = state();
        clerk(4, 0, 4, MISSING);
        clerk(4, 0, -2, MISSING);
        clerk(4, 0, MIN, MISSING);
        clerk(4, 0, MAX, MISSING);
        clerk(1, 0, 1, MISSING);
        clerk(1, 1, 0, MISSING);
        clerk(0, 4, NONE, MISSING);
        clerk(0, 4, 0, MISSING);
        clerk(5, 0, NONE, MISSING);
        clerk(0, 5, NONE, MISSING);
        clerk(-1, 0, NONE, MISSING);
        clerk(0, -1, NONE, MISSING);
        unchanged(before);
    }

    /** DAYS between all TOWNS, each against the least of all rows of TRAINS. */
    private static void allWays(String trains) {
        start("A WAY: from each TOWN to each other one, by " + trains);
        tell(TOWN.repeat(5) + trains);
        int[][] days = new int[5][5];
        for (String train : trains.split(";")) {
            String[] parts = train.split(" ");
            days[Integer.parseInt(parts[1])][Integer.parseInt(parts[2])] = Integer.parseInt(parts[3]);
        }
        for (int from = 0; from < 5; from++) {
            for (int to = 0; to < 5; to++) {
                way(from, to, shortest(days, from, to, 1 << from));
            }
        }
    }

    private static int shortest(int[][] days, int from, int to, int been) {
        if (from == to) {
            return 0;
        }
        int least = NONE;
        for (int next = 0; next < 5; next++) {
            if (days[from][next] > 0 && (been & 1 << next) == 0) {
                int rest = shortest(days, next, to, been | 1 << next);
                if (rest != NONE && (least == NONE || days[from][next] + rest < least)) {
                    least = days[from][next] + rest;
                }
            }
        }
        return least;
    }

    private static void sendings() {
        start("A TRUNK is SENT from the TOWN where it is: it is there on the DAY that comes of it");
        tell(TOWN.repeat(3) + "train 0 1 2;train 1 2 3;train 2 0 1;trunk 0;");
        days(10, 10);
        send(0, 2, 15);
        trunk(0, 0, NONE);
        trunk(0, 1, 2);
        trunk(0, 2, 15);
        days(4, 14);
        send(0, 0, NONE);
        trunk(0, 0, NONE);
        town(2, 4, 0);
        days(1, 15);
        trunk(0, 0, 2);
        town(2, 4, 1);
        send(0, 0, 16);
        trunk(0, 1, 0);
        days(50, 65);
        trunk(0, 2, 16);
        send(0, 1, 67);
    }

    private static void refusedSendings() {
        start("Promise 13: NONE (STATUS 1): it is on its way, is there, there is no WAY");
        tell(TOWN.repeat(3) + "train 0 1 2;train 1 0 2;trunk 0;");
        refused(1, "send(0, 0), is there", () -> x.send(0, 0));
        refused(1, "send(0, 2), no way", () -> x.send(0, 2));
        send(0, 1, 2);
        refused(1, "send(0, 0), on its way", () -> x.send(0, 0));
        refused(1, "send(0, 1), on its way", () -> x.send(0, 1));
        days(1, 1);
        refused(1, "send(0, 0), on its way still", () -> x.send(0, 0));
        days(1, 2);
        refused(1, "send(0, 1), is there", () -> x.send(0, 1));
        count(11, 6);
        start("Promise 13: refused, it has no DRAW");
        int first = drawn(9, 1);
        tell("town slow " + first + ";" + TOWN + TOWN + "train 0 1 1;trunk 0;");
        seed(9);
        send(0, 0, NONE);
        send(0, 2, NONE);
        send(0, 1, 1);
        tell("town slow " + (first + 1) + ";" + TOWN + TOWN + "train 0 1 1;trunk 0;");
        seed(9);
        send(0, 0, NONE);
        send(0, 2, NONE);
        send(0, 1, 2);
        start("Promise 13: NoSuchElementException: no such TRUNK, TOWN");
        tell(TOWN.repeat(5) + "trunk 0;".repeat(4));
        idle("send(4, 0)", MISSING, () -> x.send(4, 0));
        idle("send(-1, 0)", MISSING, () -> x.send(-1, 0));
        idle("send(0, 5)", MISSING, () -> x.send(0, 5));
        idle("send(0, -1)", MISSING, () -> x.send(0, -1));
    }

    /** The n-th DRAW of 1000 from a seed on, by arithmetic that can't wrap unseen. */
    private static int drawn(long seed, int n) {
        long bits = seed & 0xffffffffL;
        for (int i = 0; i < n; i++) {
            // below 2 to the 63rd: 32 bits by 31 bits
            bits = (bits * 1103515245L + 12345L) % 0x100000000L;
        }
        return (int) (bits / 65536 % 32768 % 1000);
    }

    private static void draws() {
        start("A seed becomes itself times 1103515245 and 12345 (an int that wraps); a DRAW is its bits 16 to 30 MOD n then;"
                + " if that is below his CHANCE he SLIPS");
        int[] seeds = {0, 1, 2, 3, 7, -1, -2, MIN, MIN + 1, MAX, MAX - 1, 12345, -12345, 65536, 1 << 30, 123456789};
        for (int seed : seeds) {
            int draw = drawn(seed, 1);
            tell("town slow " + draw + ";" + TOWN + "train 0 1 1;trunk 0;");
            seed(seed);
            send(0, 1, 1);
            tell("town slow " + (draw + 1) + ";" + TOWN + "train 0 1 1;trunk 0;");
            seed(seed);
            send(0, 1, 2);
        }
        start("A seed becomes itself ..: each DRAW goes on from the one ahead");
        for (int more = 0; more <= 1; more++) {
            tell(TOWN + TOWN + "town slow " + (drawn(5, 40) + more)
                    + ";train 0 1 1;train 1 0 1;train 2 0 1;trunk 0;trunk 2;");
            seed(5);
            for (int i = 1; i < 40; i++) {
                send(0, i % 2, i);
                days(1, i);
            }
            send(1, 0, 40 + more);
        }
        start("a CHANCE of 0 never, of 1000 always");
        for (int seed = 0; seed < 10; seed++) {
            tell("town slow 0;town slow 1000;train 0 1 1;train 1 0 1;trunk 0;trunk 1;");
            seed(seed);
            send(0, 1, 1);
            send(1, 0, 2);
        }
    }

    private static void whoDraws() {
        String path = "train 0 1 1;train 1 2 1;trunk 0;";
        int second = drawn(8, 2);
        start("With a SEED each CLERK of its WAY, in order, has a DRAW (A careful one has a DRAW, too.)");
        for (String ahead : new String[] {TOWN, "town slow 0;", "town lazy 0;", "town drunk 0;", "town drunk 1000;"}) {
            // no other train goes from the drunk one, so he doesn't slip, but draws
            tell(ahead + "town slow " + second + ";" + TOWN + path);
            seed(8);
            send(0, 2, 2);
            tell(ahead + "town slow " + (second + 1) + ";" + TOWN + path);
            seed(8);
            send(0, 2, 3);
        }
        start("(where it begins, and where it changes trains): not where it comes to");
        tell(TOWN + "town slow 1000;" + "town slow " + drawn(8, 2) + ";train 0 1 1;train 2 0 1;trunk 0;trunk 2;");
        seed(8);
        send(0, 1, 1);
        send(1, 0, 1);
        tell(TOWN + "town slow 1000;" + "town slow " + (drawn(8, 2) + 1) + ";train 0 1 1;train 2 0 1;trunk 0;trunk 2;");
        seed(8);
        send(0, 1, 1);
        send(1, 0, 2);
        start("With a SEED: without one nobody SLIPS");
        tell("town slow 1000;town lazy 1000;town drunk 1000;" + TOWN
                + "train 0 1 1;train 1 2 1;train 2 3 1;train 2 0 1;trunk 0;");
        send(0, 3, 3);
        trunk(0, 1, 3);
        undo(true);
        seed(0);
        count(8, 1);
        send(0, 3, 2);
        trunk(0, 1, 1);
        start("Promise 14: There is a SEED from now on: another one in place of it");
        tell("town slow " + (drawn(8, 1) + 1) + ";" + TOWN + "train 0 1 1;trunk 0;");
        count(8, 0);
        seed(9);
        seed(8);
        count(8, 1);
        send(0, 1, 2);
        count(8, 1);
    }

    private static void drunkClerks() {
        start("a drunk one sends it by the TRAIN to the least TOWN to which one goes from there");
        tell("town drunk 1000;" + TOWN.repeat(4) + "train 0 1 2;train 0 4 3;train 0 2 5;train 0 3 4;trunk 0;trunk 0;");
        seed(1);
        days(7, 7);
        send(0, 3, 8 + 1);
        trunk(0, 1, 1);
        start("that isn't the next of its WAY");
        tell("town drunk 1000;" + TOWN.repeat(4) + "train 0 1 2;train 0 4 3;train 0 2 5;train 0 3 4;trunk 0;trunk 0;");
        seed(1);
        send(0, 1, 5);
        trunk(0, 1, 2);
        start("the next of its WAY is not always where the WAY leads");
        tell("town drunk 1000;" + TOWN.repeat(2) + "train 0 1 1;train 1 2 1;train 0 2 9;trunk 0;");
        seed(1);
        send(0, 2, 9);
        trunk(0, 1, 2);
        start("(if there is none, he doesn't SLIP)");
        tell("town drunk 1000;" + TOWN.repeat(2) + "train 0 1 3;train 1 2 1;train 2 0 1;trunk 0;");
        seed(1);
        send(0, 1, 3);
        trunk(0, 1, 1);
        start("(if there is none, he doesn't SLIP): of five TOWNS in a ring, from each of which one TRAIN goes");
        tell("town drunk 1000;".repeat(5) + "train 0 1 1;train 1 2 1;train 2 3 1;train 3 4 1;train 4 0 1;"
                + "trunk 0;trunk 1;trunk 2;trunk 3;trunk 4;");
        seed(1);
        for (int trunk = 0; trunk < 5; trunk++) {
            int to = (trunk + 4) % 5;
            send(trunk, to, 4);
            trunk(trunk, 1, to);
            for (int i = 0; i < 4; i++) {
                lost(trunk, to, i, 0, 1);
            }
        }
        start("of five TOWNS in two rings, from each of which two TRAINS go");
        tell("town drunk 1000;".repeat(5) + "train 0 1 1;train 1 2 1;train 2 3 1;train 3 4 1;train 4 0 1;"
                + "train 0 4 9;train 1 0 9;train 2 1 9;train 3 2 9;train 4 3 9;trunk 0;trunk 1;trunk 2;trunk 3;trunk 4;");
        seed(1);
        for (int trunk = 0; trunk < 5; trunk++) {
            lost(trunk, (trunk + 1) % 5, 0, 1, 1);
            send(trunk, (trunk + 1) % 5, 9);
            trunk(trunk, 1, (trunk + 4) % 5);
        }
        start("and there it stays");
        tell(TOWN + "town drunk 1000;" + TOWN.repeat(2)
                + "train 0 1 2;train 1 2 3;train 2 3 1;train 1 0 4;train 1 3 9;trunk 0;");
        seed(1);
        // he sends it back to where it came from
        send(0, 2, 6);
        trunk(0, 1, 0);
        trunk(0, 0, NONE);
        days(5, 5);
        trunk(0, 0, NONE);
        days(1, 6);
        trunk(0, 0, 0);
        days(90, 96);
        trunk(0, 0, 0);
        trunk(0, 2, 6);
        start("and there it stays: no CLERK behind him has a DRAW");
        for (int more = 0; more <= 1; more++) {
            tell("town drunk 1000;town slow 1000;town slow " + (drawn(4, 2) + more)
                    + ";train 0 1 1;train 1 2 1;train 0 2 9;train 2 1 1;trunk 0;trunk 2;");
            seed(4);
            send(0, 2, 9);
            send(1, 1, 1 + more);
        }
    }

    private static void slowAndLazyClerks() {
        start("a slow one sends it a DAY later");
        tell("town slow 1000;".repeat(5) + "train 0 1 1;train 1 2 1;train 2 3 1;train 3 4 1;trunk 0;trunk 0;");
        seed(1);
        send(0, 4, 8);
        send(1, 1, 2);
        trunk(0, 1, 4);
        days(7, 7);
        trunk(0, 0, NONE);
        trunk(1, 0, 1);
        days(1, 8);
        trunk(0, 0, 4);
        start("a lazy one keeps it: where it begins");
        tell("town lazy 1000;" + TOWN + "train 0 1 1;trunk 0;");
        seed(1);
        days(3, 3);
        send(0, 1, 3);
        trunk(0, 0, 0);
        trunk(0, 1, 0);
        trunk(0, 2, 3);
        count(7, 2);
        count(11, 0);
        start("a lazy one keeps it: where it changes trains");
        tell("town slow 1000;town lazy 1000;" + TOWN + "train 0 1 2;train 1 2 1;trunk 0;");
        seed(1);
        days(3, 3);
        send(0, 2, 6);
        trunk(0, 0, NONE);
        trunk(0, 1, 1);
        days(3, 6);
        trunk(0, 0, 1);
    }

    private static void daysGoBy() {
        start("DAYS go by; a TRUNK on its way is in its TOWN from the DAY on on which it comes");
        tell(TOWN + TOWN + "train 0 1 9;trunk 0;thing 1 0;");
        send(0, 1, 9);
        days(8, 8);
        town(1, 4, 0);
        town(1, 5, 0);
        town(0, 4, 0);
        days(1, 9);
        town(1, 4, 1);
        town(1, 5, 1);
        days(1, 10);
        town(1, 4, 1);
        start("Promise 15: So many DAYS go by (0 to 99): the DAY then. IllegalArgumentException: how many.");
        tell(TOWN + TOWN + "trunk 0;");
        days(0, 0);
        days(99, 99);
        days(99, 198);
        idle("days(100)", BAD, () -> x.days(100));
        idle("days(-1)", BAD, () -> x.days(-1));
        idle("days(MIN)", BAD, () -> x.days(MIN));
        idle("days(MAX)", BAD, () -> x.days(MAX));
        count(5, 198);
        count(7, 3);
    }

    private static void undone() {
        start("SENDINGS and DAYS gone by are UNDONE, the last ones first");
        tell(TOWN + TOWN + "train 0 1 2;trunk 0;trunk 0;");
        send(0, 1, 2);
        days(1, 1);
        send(1, 1, 3);
        count(7, 3);
        undo(true);
        count(7, 2);
        trunk(1, 0, 0);
        trunk(1, 2, 0);
        trunk(0, 0, NONE);
        undo(true);
        count(5, 0);
        trunk(0, 2, 2);
        undo(true);
        trunk(0, 0, 0);
        trunk(0, 2, 0);
        count(7, 0);
        idle("undo()", 0, () -> x.undo() ? 1 : 0);
        start("are UNDONE: of five TRUNKS, each in its place");
        tell(TOWN.repeat(5) + "train 0 1 1;train 0 2 2;train 0 3 3;train 0 4 4;train 4 0 9;" + "trunk 0;".repeat(4) + "trunk 4;");
        String[] states = new String[6];
        states[0] = state();
        for (int trunk = 0; trunk < 5; trunk++) {
            send(trunk, (trunk + 1) % 5, trunk == 4 ? 9 : trunk + 1);
            states[trunk + 1] = trunk == 4 ? "" : state();
        }
        for (int trunk = 4; trunk >= 0; trunk--) {
            undo(true);
            unchanged(states[trunk]);
        }
        start("(at most 100)");
        tell(TOWN);
        for (int day = 1; day <= 100; day++) {
            days(1, day);
            count(7, day);
        }
        for (int day = 99; day >= 0; day--) {
            undo(true);
        }
        undo(false);
        count(5, 0);
        start("(at most 100): the first of 101 can't be");
        tell(TOWN);
        for (int day = 1; day <= 101; day++) {
            days(1, day);
        }
        count(7, 100);
        for (int i = 0; i < 100; i++) {
            undo(true);
        }
        undo(false);
        count(5, 1);
        days(3, 4);
        count(7, 1);
        undo(true);
        count(5, 1);
        start("(at most 100): far more, of both kinds, in turn");
        tell(TOWN + TOWN + "train 0 1 1;train 1 0 1;trunk 0;");
        for (int i = 1; i <= 80; i++) {
            send(0, i % 2, i);
            days(1, i);
        }
        count(7, 100);
        for (int i = 0; i < 100; i++) {
            undo(true);
        }
        undo(false);
        count(5, 30);
        trunk(0, 2, 30);
        trunk(0, 0, 0);
        start("a call of days() is one");
        tell(TOWN);
        days(0, 0);
        count(7, 1);
        days(99, 99);
        count(7, 2);
        undo(true);
        count(5, 0);
        undo(true);
        undo(false);
        start("Promise 16: nothing else is UNDONE");
        tell(TOWN + TOWN + "train 0 1 2;trunk 0;thing 1 0;play 1 1;");
        days(1, 1);
        send(0, 0, NONE);
        night(9, 1, 0, 1);
        night(8, 1, 0, NONE);
        tour(0);
        tellFault("x", 1, 0);
        feedText("y");
        undo(true);
        count(5, 0);
        count(6, 1);
        count(9, 20);
        count(10, 1);
        count(11, 1);
        count(12, 1);
        rides(1);
        fault(0);
        undo(false);
    }

    private static void undoneSeed() {
        for (int more = 0; more <= 1; more++) {
            start("are UNDONE .., the SEED too: " + more);
            tell("town slow " + (drawn(6, 1) + more) + ";town slow " + (drawn(6, 2) + more)
                    + ";" + TOWN + "train 0 2 1;train 1 2 1;trunk 0;trunk 1;");
            seed(6);
            for (int again = 0; again < 3; again++) {
                send(0, 2, 1 + more);
                send(1, 2, 1 + more);
                undo(true);
                send(1, 2, 1 + more);
                days(1, 1);
                undo(true);
                undo(true);
                undo(true);
                count(8, 1);
            }
        }
        start("the SEED too: that there was none");
        tell("town slow 1000;" + TOWN + "train 0 1 1;trunk 0;trunk 0;");
        send(0, 1, 1);
        seed(6);
        send(1, 1, 2);
        undo(true);
        count(8, 1);
        undo(true);
        count(8, 0);
        send(1, 1, 1);
        start("the SEED too: a SEED ahead of what is undone stays");
        tell("town slow 1000;" + TOWN + "train 0 1 1;trunk 0;");
        seed(6);
        days(1, 1);
        undo(true);
        count(8, 1);
        undo(false);
        count(8, 1);
    }

    private static void lostTrunks() {
        start("LOST on a WAY: a drunk CLERK (who could send it elsewhere)");
        tell("town drunk 500;town drunk 500;" + TOWN + "train 0 1 1;train 1 2 1;train 0 2 9;");
        lost(0, 2, 0, 1, 1);
        lost(0, 2, 1, 0, 1);
        tell("town drunk 500;town drunk 500;" + TOWN + "train 0 1 1;train 1 2 1;train 0 2 9;train 1 0 9;");
        lost(0, 2, 0, 2, 3);
        lost(0, 2, 1, 1, 3);
        start("or a lazy one, SLIPPED; careful and slow ones lose none");
        tell("town lazy 1;town slow 1000;" + TOWN.repeat(2) + "train 0 1 1;train 1 2 1;train 2 3 1;train 1 3 9;train 2 0 1;");
        lost(0, 3, 0, 1, 1);
        lost(0, 3, 1, 0, 1);
        lost(0, 3, 2, 0, 1);
        start("by the first who does");
        tell("town lazy 1000;town lazy 1000;" + TOWN + "train 0 1 1;train 1 2 1;");
        lost(0, 2, 0, 1, 1);
        lost(0, 2, 1, 0, 1);
        lost(1, 2, 0, 1, 1);
        tell("town lazy 999;town lazy 1000;" + TOWN + "train 0 1 1;train 1 2 1;");
        lost(0, 2, 0, 999, 1000);
        lost(0, 2, 1, 1, 1000);
        start("Promise 18: (1; 0 by 1 if none can)");
        tell("town lazy 0;town drunk 0;town slow 1000;" + TOWN
                + "train 0 1 1;train 1 2 1;train 2 3 1;train 1 3 9;train 0 3 9;");
        for (int i = 0; i < 3; i++) {
            lost(0, 3, i, 0, 1);
        }
        start("Promise 18: NoSuchElementException: also there is no WAY, no such one, another what");
        tell("town lazy 5;town lazy 5;" + TOWN + "train 0 1 1;train 1 2 1;");
        String before = state();
        lost(0, 2, 1, 199, 399);
        lost(0, 2, 2, MISSING, MISSING);
        lost(0, 2, NONE, MISSING, MISSING);
        lost(0, 2, MIN, MISSING, MISSING);
        lost(0, 2, MAX, MISSING, MISSING);
        lost(2, 0, 0, MISSING, MISSING);
        lost(0, 0, 0, MISSING, MISSING);
        lost(3, 0, 0, MISSING, MISSING);
        lost(0, 3, 0, MISSING, MISSING);
        lost(-1, 0, 0, MISSING, MISSING);
        lost(0, -1, 0, MISSING, MISSING);
        for (int what : new int[] {-1, 2, MIN, MAX}) {
            due("lost(0, 2, 0, " + what + ")", MISSING, () -> x.lost(0, 2, 0, what));
        }
        unchanged(before);
    }

    private static void lostLowestTerms() {
        start("as a fraction in lowest terms: of four CLERKS");
        tell("town lazy 1;town lazy 1;town lazy 1;town lazy 1;" + TOWN + "train 0 1 1;train 1 2 1;train 2 3 1;train 3 4 1;");
        // of 10 to the 12th, 999 to the 4th are safe: one in 3994003999 at first
        long lower = 1000000000000L - 999L * 999 * 999 * 999;
        lost(0, 4, 0, 1000000000L, lower);
        lost(0, 4, 1, 999L * 1000000, lower);
        lost(0, 4, 2, 999L * 999 * 1000, lower);
        lost(0, 4, 3, 999L * 999 * 999, lower);
        start("as a fraction in lowest terms: what both parts share is gone");
        tell("town lazy 500;town lazy 500;town lazy 500;town lazy 500;" + TOWN
                + "train 0 1 1;train 1 2 1;train 2 3 1;train 3 4 1;");
        lost(0, 4, 0, 8, 15);
        lost(0, 4, 1, 4, 15);
        lost(0, 4, 2, 2, 15);
        lost(0, 4, 3, 1, 15);
    }

    // ---- part 4, promises 19 to 24

    private static void nights() {
        start("A TOUR: NIGHTS 0, 1 .. (at most 4)");
        tell(TOWN + "play 1 1;");
        for (int many = 1; many <= 4; many++) {
            night(9, 0, 0, many);
            count(6, many);
        }
        refused(2, "night(9, 0, 0)", () -> x.night(9, 0, 0));
        refused(2, "night(99, 0, 0)", () -> x.night(99, 0, 0));
        count(12, 2);
        start("a DAY (0 to 99)");
        tell(TOWN + "play 1 1;");
        refused(2, "night(-1, 0, 0)", () -> x.night(-1, 0, 0));
        refused(2, "night(100, 0, 0)", () -> x.night(100, 0, 0));
        refused(2, "night(MIN, 0, 0)", () -> x.night(MIN, 0, 0));
        refused(2, "night(MAX, 0, 0)", () -> x.night(MAX, 0, 0));
        night(0, 0, 0, 1);
        refused(2, "night(-1, 0, 0)", () -> x.night(-1, 0, 0));
        night(99, 0, 0, 2);
        refused(2, "night(100, 0, 0)", () -> x.night(100, 0, 0));
        start("no less than that of the NIGHT ahead");
        tell(TOWN + "play 1 1;");
        night(50, 0, 0, 1);
        refused(2, "night(49, 0, 0)", () -> x.night(49, 0, 0));
        night(50, 0, 0, 2);
        night(51, 0, 0, 3);
        refused(2, "night(50, 0, 0)", () -> x.night(50, 0, 0));
        night(51, 0, 0, 4);
        start("a DAY, no less than that of the NIGHT ahead: it may be gone by");
        tell(TOWN + "play 1 1;");
        days(60, 60);
        night(0, 0, 0, 1);
        night(59, 0, 0, 2);
        start("Promise 19: NoSuchElementException (ahead): no such TOWN, PLAY");
        tell(TOWN + TOWN + "play 1 1;");
        String before = state();
        night(-1, 2, 0, MISSING);
        night(-1, -1, 0, MISSING);
        night(100, 0, 1, MISSING);
        night(100, 0, -1, MISSING);
        night(0, 2, 1, MISSING);
        night(0, 2, 0, MISSING);
        night(0, 0, 1, MISSING);
        unchanged(before);
        for (int many = 1; many <= 4; many++) {
            night(many, 1, 0, many);
        }
        idle("night(5, 2, 0), of a fifth one", MISSING, () -> x.night(5, 2, 0));
        idle("night(5, 0, 1), of a fifth one", MISSING, () -> x.night(5, 0, 1));
        start("Promise 20: All NIGHTS are forgotten.");
        tell("town careful lends 1 5;play 1 1;");
        forget();
        count(6, 0);
        for (int many = 1; many <= 4; many++) {
            night(99, 0, 0, many);
        }
        tour(20);
        forget();
        count(6, 0);
        tour(0);
        night(0, 0, 0, 1);
        tour(5);
    }

    private static final String TWO = "town careful lends 1 7;town careful lends 1 7;";

    private static void toursOnDays() {
        start("From the DAY now on (none on a DAY ahead of the DAY now)");
        tell(TWO + "trunk 0;thing 1 0;play 1 1;");
        night(3, 0, 0, 1);
        days(3, 3);
        tour(0);
        rides(1);
        days(1, 4);
        tour(7);
        rides(0);
        start("none on a DAY ahead of the DAY now: others are as they were");
        tell(TWO + "trunk 0;thing 1 0;play 1 1;");
        night(3, 0, 0, 1);
        night(4, 0, 0, 2);
        days(4, 4);
        tour(7);
        rides(2);
        start("TRUNKS where they are (or will come to)");
        tell(TWO + TOWN + "train 0 1 2;train 1 2 3;trunk 0;thing 1 0;play 1 1;");
        send(0, 1, 2);
        night(1, 1, 0, 1);
        tour(7);
        rides(0);
        forget();
        night(2, 1, 0, 1);
        tour(0);
        rides(1);
        forget();
        night(0, 0, 0, 1);
        tour(7);
        rides(0);
        forget();
        night(5, 2, 0, 1);
        tour(0);
        rides(1);
        forget();
        night(4, 2, 0, 1);
        tour(NONE);
        days(2, 2);
        tour(NONE);
        forget();
        night(5, 2, 0, 1);
        tour(0);
        rides(1);
        days(1, 3);
        tour(NONE);
        start("TRUNKS where they are: however long ago one came");
        tell(TWO + "train 0 1 2;trunk 0;thing 1 0;play 1 1;");
        days(50, 50);
        night(51, 1, 0, 1);
        tour(7);
        night(52, 1, 0, 2);
        tour(7);
        rides(2);
    }

    private static void toursOnWays() {
        String world = TWO + "train 0 1 5;train 1 0 5;trunk 0;thing 1 0;play 20 1;";
        start("each TRUNK is there on a set of NIGHTS, as its WAYS allow");
        tell(world);
        days(4, 4);
        night(8, 1, 0, 1);
        tour(7);
        rides(0);
        forget();
        night(9, 1, 0, 1);
        tour(0);
        rides(1);
        start("as its WAYS allow: each TRUNK by its own");
        tell(TWO + "trunk 0;trunk 1;trunk 0;thing 1 1;play 1 1;");
        for (int many = 1; many <= 4; many++) {
            night(many, 0, 0, many);
        }
        tour(28);
        rides(0, 0, 0);
        forget();
        night(0, 1, 0, 1);
        tour(0);
        rides(0, 1, 0);
        start("as its WAYS allow: each TRUNK by its own, the first of which can be there on all four NIGHTS");
        tell(TWO + "trunk 0;trunk 1;thing 1 0;play 1 1;");
        for (int many = 1; many <= 4; many++) {
            night(many, 0, 0, many);
        }
        tour(0);
        rides(15, 0);
        start("as its WAYS allow: not where none goes");
        tell(TWO + "train 1 0 1;trunk 0;thing 1 0;play 1 1;");
        night(99, 1, 0, 1);
        tour(7);
        rides(0);
        start("as its WAYS allow: by more TRAINS than one");
        tell(TWO + TOWN + "train 0 1 9;train 0 2 2;train 2 1 2;trunk 0;thing 1 0;play 1 1;");
        night(3, 1, 0, 1);
        night(4, 1, 0, 2);
        tour(7);
        rides(2);
        start("(it is sent on the DAY of a NIGHT at the soonest from there)");
        tell(world);
        night(3, 0, 0, 1);
        night(7, 1, 0, 2);
        tour(7);
        rides(1);
        forget();
        night(3, 0, 0, 1);
        night(8, 1, 0, 2);
        tour(0);
        rides(3);
        night(12, 0, 0, 3);
        tour(7);
        rides(3);
        night(13, 0, 0, 4);
        tour(7);
        rides(11);
        start("and may be there again on the same DAY only in the same TOWN");
        tell(TWO + "train 0 1 1;train 1 0 1;trunk 0;thing 1 0;play 1 1;");
        for (int many = 1; many <= 4; many++) {
            night(5, 1, 0, many);
        }
        tour(0);
        rides(15);
        forget();
        night(5, 1, 0, 1);
        night(5, 0, 0, 2);
        night(5, 1, 0, 3);
        night(6, 0, 0, 4);
        tour(7);
        rides(13);
        start("the same DAY only in the same TOWN: on the DAY now");
        tell(TWO + "train 0 1 1;train 1 0 1;trunk 0;thing 1 0;play 1 1;");
        night(0, 0, 0, 1);
        night(0, 1, 0, 2);
        night(0, 0, 0, 3);
        tour(7);
        rides(5);
        start("(CASTS don't matter in it)");
        tell(world + "troupe 1;");
        night(0, 0, 0, 1);
        tour(0);
        spared(0, 7);
        start("(nobody SLIPS)");
        tell("town lazy 1000;town drunk 1000;" + TOWN + "train 0 1 1;train 1 2 1;train 1 0 1;trunk 0;thing 1 0;play 1 1;");
        seed(1);
        night(2, 2, 0, 1);
        tour(0);
        rides(1);
        start("(nobody SLIPS): and nobody has a DRAW");
        for (int more = 0; more <= 1; more++) {
            tell("town slow " + (drawn(3, 1) + more) + ";" + TOWN + "train 0 1 1;trunk 0;thing 1 0;play 1 1;");
            seed(3);
            night(1, 1, 0, 1);
            tour(0);
            spared(NONE, NONE);
            send(0, 1, 1 + more);
        }
        start("PRICES of all NIGHTS together are least (each must have one)");
        tell("town careful lends 1 7;" + TOWN + "trunk 0;thing 1 0;play 1 1;play 1 2;");
        night(0, 0, 0, 1);
        tour(0);
        night(0, 0, 1, 2);
        tour(7);
        night(0, 1, 1, 3);
        tour(NONE);
        start("each must have one: it is there where it must be, not where it would spare more");
        tell("town careful lends 1 99;" + TOWN + "train 0 1 1;trunk 0;thing 1 0;play 1 1;");
        night(0, 0, 0, 1);
        night(0, 1, 0, 2);
        tour(NONE);
        forget();
        night(1, 0, 0, 1);
        night(1, 1, 0, 2);
        tour(99);
        rides(2);
        start("Promise 21: THE TOUR of no NIGHTS");
        tell(TOWN + "trunk 0;play 1 1;");
        tour(0);
        rides(0);
    }

    private static void toursOfLikeOnes() {
        start("of like ones the first as a row of these sets (as bits) by TRUNKS");
        tell(TWO + "train 0 1 1;" + "trunk 0;".repeat(5) + "thing 1 0;thing 1 1;thing 1 2;thing 1 3;thing 1 4;play 1 1;"
                + "play 1 1 1 1 1;");
        night(1, 0, 0, 1);
        tour(0);
        rides(0, 0, 0, 0, 1);
        night(1, 1, 0, 2);
        tour(0);
        rides(0, 0, 0, 1, 2);
        night(2, 1, 0, 3);
        tour(0);
        rides(0, 0, 0, 1, 6);
        night(2, 0, 0, 4);
        tour(0);
        rides(0, 0, 0, 6, 9);
        start("of like ones the first: all five TRUNKS on four NIGHTS");
        tell(TWO + "train 0 1 1;" + "trunk 0;".repeat(5) + "thing 1 0;thing 1 1;thing 1 2;thing 1 3;thing 1 4;play 1 1;"
                + "play 1 1 1 1 1;");
        night(1, 1, 1, 1);
        night(1, 0, 0, 2);
        night(2, 1, 1, 3);
        night(2, 0, 0, 4);
        tour(0);
        rides(5, 5, 5, 5, 10);
        start("of like ones the first: the NIGHT with the least bit, if only one can be");
        tell(TWO + "train 0 1 1;train 1 0 1;trunk 0;thing 1 0;play 1 1;");
        night(1, 1, 0, 1);
        night(1, 0, 0, 2);
        tour(7);
        rides(1);
        start("of like ones the first: where it is of no use it is not there");
        tell("town careful lends 1 0;town careful lends 1 7;trunk 0;trunk 1;thing 1 0;thing 2 1;play 1 1;");
        night(0, 0, 0, 1);
        night(0, 1, 0, 2);
        tour(7);
        rides(0, 0);
    }

    private static void toursKept() {
        start("Promise 21: NONE: it can't be. (It is kept, if it can be.)");
        tell(TOWN + TOWN + "trunk 0;trunk 0;thing 1 1;play 1 1;");
        rides(MISSING, MISSING);
        night(0, 1, 0, 1);
        tour(NONE);
        rides(MISSING, MISSING);
        forget();
        night(0, 0, 0, 1);
        tour(0);
        rides(0, 1);
        night(0, 1, 0, 2);
        tour(NONE);
        rides(0, 1);
        forget();
        tour(0);
        rides(0, 0);
        start("Promise 21: nothing changes but what is kept");
        tell(TOWN + TOWN + "train 0 1 1;trunk 0;thing 1 0;play 1 1;");
        night(5, 1, 0, 1);
        tour(0);
        idle("tour()", 0, () -> x.tour());
        count(7, 0);
        start("Promise 22: NoSuchElementException: also none is kept");
        tell(TOWN + "trunk 0;".repeat(5) + "play 1 1;");
        String before = state();
        rides(MISSING, MISSING, MISSING, MISSING, MISSING, MISSING);
        unchanged(before);
        tour(0);
        rides(0, 0, 0, 0, 0, MISSING);
        due("rides(-1)", MISSING, () -> x.rides(-1));
        start("Promise 22: by the TOUR that is kept, not by NIGHTS told since");
        tell(TOWN + "trunk 0;thing 1 0;play 1 1;");
        night(3, 0, 0, 1);
        tour(0);
        night(4, 0, 0, 2);
        days(9, 9);
        rides(1);
        idle("rides(0)", 1, () -> x.rides(0));
    }

    private static void sparedTrunks() {
        start("SPARED: the TRUNK without which (it isn't there at all) the TOUR costs least, of like ones the least");
        tell(TWO + "trunk 0;trunk 0;trunk 0;thing 1 0;thing 1 1;thing 2 2;play 1 1;play 1 1 2;");
        spared(0, 0);
        night(0, 0, 0, 1);
        spared(0, 0);
        night(0, 0, 1, 2);
        spared(0, 0);
        tell(TWO + "trunk 0;trunk 0;trunk 0;thing 1 0;thing 2 1;thing 3 2;play 1 1;play 1 2;play 1 3;like 1 3 2;like 3 2 1;");
        night(0, 0, 0, 1);
        spared(1, 0);
        night(0, 0, 1, 2);
        spared(2, 0);
        night(0, 0, 2, 3);
        // without 0 it costs 7, without 1 1, without 2 2
        spared(1, 1);
        start("Promise 23: NONE: there are no TRUNKS");
        tell("town careful lends 1 7;play 1 1;");
        spared(NONE, NONE);
        night(0, 0, 0, 1);
        tour(7);
        spared(NONE, NONE);
        start("Promise 23: NONE: or no TOUR can be without any");
        tell(TOWN + "trunk 0;trunk 0;thing 1 0;thing 2 1;play 1 1 2;play 1 1;");
        night(0, 0, 0, 1);
        tour(0);
        spared(NONE, NONE);
        forget();
        night(0, 0, 1, 1);
        spared(1, 0);
        night(0, 0, 0, 2);
        spared(NONE, NONE);
        start("Promise 23: NONE, where the TOUR can't be with all");
        tell(TOWN + "trunk 0;thing 1 0;play 1 2;");
        night(0, 0, 0, 1);
        tour(NONE);
        spared(NONE, NONE);
        start("Promise 23: nothing changes, the TOUR that is kept stays");
        tell(TWO + "trunk 0;thing 1 0;play 1 1;");
        night(0, 0, 0, 1);
        tour(0);
        forget();
        idle("spared(0)", 0, () -> x.spared(0));
        idle("spared(1)", 0, () -> x.spared(1));
        rides(1);
        start("Promise 23: NoSuchElementException: another what");
        tell(TOWN + "trunk 0;");
        String before = state();
        for (int what : new int[] {-1, 2, MIN, MAX}) {
            due("spared(" + what + ")", MISSING, () -> x.spared(what));
        }
        unchanged(before);
        start("Promise 23: NoSuchElementException: another what, of a new object, too");
        due("spared(2)", MISSING, () -> x.spared(2));
    }

    private static void unopenedTrunks() {
        String world = "town careful lends 1 50;" + TOWN + "train 0 1 1;trunk 0;thing 1 0;play 1 1 2;play 1 5;like 3 2 7;"
                + "play 1 19;play 1 0;";
        start("UNOPENED: by how many WEIGHTS (0 to 99) it has a THING of each SORT told");
        tell(world);
        unopened(0, 0, 201, NONE, NONE, 50);
        unopened(0, 0, 299, NONE, NONE, 50);
        unopened(0, 0, 301, NONE, NONE, 43);
        unopened(0, 0, 200, 399, NONE, 43);
        unopened(0, 0, 299, 300, NONE, 50);
        unopened(0, 0, 401, NONE, NONE, 0);
        start("Promise 24: of up to three SORTS (perhaps like ones)");
        tell(world);
        unopened(0, 0, NONE, NONE, 301, 43);
        unopened(0, 0, NONE, 301, NONE, 43);
        unopened(0, 0, 201, NONE, 301, 50 - 7 / 2);
        unopened(0, 0, 301, 401, 201, 50 - 57 / 3);
        unopened(0, 0, 301, 301, 301, 43);
        unopened(0, 0, 201, 201, 301, 50 - 7 / 3);
        start("Promise 24: each 100 by the SORT and its WEIGHT: the first SORT and the last one");
        tell(world);
        unopened(3, 1, 1, NONE, NONE, 1000);
        unopened(3, 1, 99, NONE, NONE, 1000);
        unopened(3, 1, 101, NONE, NONE, 0);
        unopened(2, 1, 1901, NONE, NONE, 1000);
        unopened(2, 1, 1999, NONE, NONE, 1000);
        unopened(2, 1, 1899, NONE, NONE, 0);
        start("of all these, WEIGHT by the PRICE with such a THING, together, by all WEIGHTS, cut down");
        tell(world);
        // 7 by 1 and 50 by 1: 57 by 2 is 28 and a half
        unopened(0, 0, 301, 401, NONE, 50 - 28);
        unopened(0, 0, 302, 401, NONE, 50 - 64 / 3);
        unopened(0, 0, 303, 403, NONE, 50 - 28);
        unopened(0, 0, 399, 498, 201, 50 - (99 * 7 + 98 * 50) / 198);
        start("(1000 for a PRICE where there is none)");
        tell(world);
        unopened(0, 1, 201, NONE, NONE, 0);
        unopened(1, 1, 501, NONE, NONE, 1000);
        unopened(1, 1, 501, 101, NONE, 500);
        unopened(1, 1, 599, 199, 299, 1000 - 99 * 2000 / (3 * 99));
        start("its WORTH for a PLAY there TONIGHT: by THINGS that are there now");
        tell(world);
        unopened(0, 1, 201, NONE, NONE, 0);
        send(0, 1, 1);
        unopened(0, 1, 201, NONE, NONE, 0);
        unopened(0, 0, 201, NONE, NONE, 950);
        days(1, 1);
        unopened(0, 1, 201, NONE, NONE, 1000);
        idle("unopened(0, 1, 201, NONE, NONE)", 1000, () -> x.unopened(0, 1, 201, NONE, NONE));
        start("its WORTH is 0 where such a THING is of no use any more");
        tell(TOWN + "trunk 0;thing 1 0;play 1 1;play 12 1;");
        unopened(0, 0, 101, NONE, NONE, 0);
        // the cast has no part in it
        unopened(1, 0, 101, NONE, NONE, 0);
    }

    private static void unopenedRefused() {
        String world = "town careful lends 1 50;play 1 1;";
        start("Promise 24: IllegalArgumentException: one is not as told");
        tell(world);
        String before = state();
        unopened(0, 0, 101, NONE, 1999, 50 - 50 * 99 / 100);
        unopened(0, 0, 101, NONE, 2000, BAD);
        unopened(0, 0, 101, 1999, NONE, 50 - 50 * 99 / 100);
        unopened(0, 0, 101, 2000, NONE, BAD);
        unopened(0, 0, 1999, 101, NONE, 50 - 50 * 99 / 100);
        unopened(0, 0, 2000, 101, NONE, BAD);
        unopened(0, 0, 2001, 101, NONE, BAD);
        unopened(0, 0, -2, 101, NONE, BAD);
        unopened(0, 0, 101, -2, NONE, BAD);
        unopened(0, 0, 101, NONE, -2, BAD);
        unopened(0, 0, 101, NONE, -100, BAD);
        unopened(0, 0, 101, NONE, MIN, BAD);
        unopened(0, 0, 101, NONE, MAX, BAD);
        unchanged(before);
        start("Promise 24: IllegalArgumentException: all WEIGHTS together are 0");
        tell(world);
        unopened(0, 0, NONE, NONE, NONE, BAD);
        unopened(0, 0, 0, NONE, NONE, BAD);
        unopened(0, 0, 100, 200, 1900, BAD);
        unopened(0, 0, NONE, 100, NONE, BAD);
        unopened(0, 0, 100, 200, 1901, 0);
        unopened(0, 0, 1, NONE, NONE, 0);
        start("Promise 24: IllegalArgumentException (behind NoSuchElementException)");
        tell(world);
        unopened(1, 0, -2, NONE, NONE, MISSING);
        unopened(-1, 0, NONE, NONE, NONE, MISSING);
        unopened(0, 1, 2000, NONE, NONE, MISSING);
        unopened(0, -1, NONE, NONE, NONE, MISSING);
        unopened(0, 0, -2, NONE, NONE, BAD);
    }

    // ---- STATUS, promises 25 and 26

    private static void status() {
        start("STATUS: how many calls were refused: 0 TEXTS with a FAULT, 1 SENDINGS, 2 NIGHTS");
        tell(TOWN + TOWN + "trunk 0;play 1 1;");
        for (int many = 1; many <= 3; many++) {
            tellFault("x", 1, 0);
            count(10, many);
        }
        count(11, 0);
        count(12, 0);
        for (int many = 1; many <= 2; many++) {
            send(0, 1, NONE);
            count(11, many);
        }
        count(12, 0);
        night(-1, 0, 0, NONE);
        count(10, 3);
        count(11, 2);
        count(12, 1);
        start("STATUS: what throws, and what else answers NONE or false, is not counted");
        tell(TOWN + TOWN + "trunk 0;play 1 1;");
        String before = state();
        due("told(1)", BAD, () -> x.told(1));
        send(1, 0, MISSING);
        night(-1, 2, 0, MISSING);
        days(100, BAD);
        undo(false);
        restore(false);
        way(0, 1, NONE);
        both(0, 0, NONE, NONE);
        tonight(0, NONE, NONE);
        unchanged(before);
    }

    private static final String LIVELY =
            "town slow 500;town slow 500;train 0 1 2;train 1 0 2;trunk 0;trunk 1;thing 1 0;play 1 1;";

    private static void images() {
        start("AN IMAGE keeps TRUNKS, the DAY, the SEED, NIGHTS, STATUS");
        tell(LIVELY);
        seed(6);
        days(5, 5);
        int first = drawn(6, 1) < 500 ? 8 : 7;
        int second = drawn(6, 2) < 500 ? 8 : 7;
        send(0, 1, first);
        night(20, 1, 0, 1);
        tellFault("x", 1, 0);
        send(0, 1, NONE);
        night(19, 1, 0, NONE);
        image();
        String before = state();
        send(1, 0, second);
        days(50, 55);
        send(0, 0, drawn(6, 3) < 500 ? 58 : 57);
        seed(100);
        forget();
        night(1, 0, 0, 1);
        night(2, 0, 0, 2);
        night(1, 0, 0, NONE);
        tellFault("y", 1, 0);
        send(0, 0, NONE);
        restore(true);
        unchanged(before.replaceFirst("^((\\S+ ){7})2 ", "$10 "));
        send(1, 0, second);
        night(19, 0, 0, NONE);
        night(20, 0, 0, 2);
        for (int more = 0; more <= 1; more++) {
            start("AN IMAGE keeps the SEED: " + more);
            tell(TOWN + "town slow " + (drawn(6, 2) + more) + ";train 0 1 1;train 1 0 1;trunk 0;trunk 1;");
            seed(6);
            send(0, 1, 1);
            image();
            send(1, 0, 1 + more);
            seed(100);
            restore(true);
            send(1, 0, 1 + more);
            restore(true);
            send(1, 0, 1 + more);
        }
        start("AN IMAGE keeps NIGHTS: their DAYS, TOWNS and PLAYS");
        tell("town careful lends 4 3;town careful lends 4 50;trunk 0;thing 1 0;play 1 1 1;play 1 2;");
        night(4, 0, 0, 1);
        night(6, 1, 1, 2);
        image();
        tour(53);
        forget();
        for (int many = 1; many <= 4; many++) {
            night(many, 2 - (many + 1) / 2, 0, many);
        }
        restore(true);
        count(6, 2);
        tour(53);
        rides(1);
        night(5, 0, 0, NONE);
        days(5, 5);
        tour(56);
        start("AN IMAGE keeps TRUNKS: five of them, each in its place");
        tell(TOWN.repeat(5) + "train 0 1 1;train 0 2 2;train 0 3 3;train 0 4 4;" + "trunk 0;".repeat(5));
        for (int trunk = 0; trunk < 4; trunk++) {
            send(trunk, trunk + 1, trunk + 1);
        }
        days(2, 2);
        image();
        days(9, 11);
        send(4, 4, 15);
        restore(true);
        for (int trunk = 0; trunk < 5; trunk++) {
            trunk(trunk, 0, trunk == 4 ? 0 : trunk < 2 ? trunk + 1 : NONE);
            trunk(trunk, 1, (trunk + 1) % 5);
            trunk(trunk, 2, (trunk + 1) % 5);
        }
        start("AN IMAGE keeps the SEED: that there was none");
        tell("town slow 1000;" + TOWN + "train 0 1 1;trunk 0;");
        image();
        seed(1);
        restore(true);
        count(8, 0);
        send(0, 1, 1);
        start("(not what can be UNDONE)");
        tell(LIVELY);
        days(1, 1);
        days(1, 2);
        image();
        count(7, 2);
        undo(true);
        count(5, 1);
        restore(true);
        count(5, 2);
        count(7, 0);
        undo(false);
        count(5, 2);
        start("Promise 25: AN IMAGE is kept, in place of another one.");
        tell(LIVELY);
        days(1, 1);
        image();
        days(1, 2);
        image();
        days(1, 3);
        restore(true);
        count(5, 2);
        start("Promise 25: nothing else changes");
        tell(LIVELY);
        days(1, 1);
        idle("image()", 0, () -> {
            x.image();
            return 0;
        });
        undo(true);
        start("Promise 26: It is as the IMAGE again: more than once");
        tell(LIVELY);
        image();
        for (int i = 0; i < 3; i++) {
            days(4, 4);
            send(0, 1, 6);
            restore(true);
            count(5, 0);
            trunk(0, 0, 0);
        }
        start("Promise 26: nothing can be UNDONE; what comes behind it can");
        tell(LIVELY);
        image();
        days(1, 1);
        restore(true);
        undo(false);
        days(2, 2);
        count(7, 1);
        undo(true);
        count(5, 0);
        undo(false);
        start("Promise 26: False: there is none.");
        tell(LIVELY);
        days(3, 3);
        idle("restore()", 0, () -> x.restore() ? 1 : 0);
        undo(true);
        start("Promise 26: there is none behind another text, but behind one with a FAULT");
        tell(LIVELY);
        days(3, 3);
        image();
        tellFault("x", 1, 0);
        restore(true);
        count(10, 0);
        tell(LIVELY);
        restore(false);
        start("Promise 26: the TEXT, the tape and the place of a FAULT are no part of it");
        tell(LIVELY);
        image();
        tellFault("x", 1, 0);
        feedText("y");
        restore(true);
        fault(0);
        count(9, 20);
        count(0, 2);
    }

    // ---- promises 5 to 7, and what isn't there

    private static void counts() {
        start("Promise 5: 0 TOWNS .. 12; NoSuchElementException: another what");
        tell(TOWN.repeat(5) + "trunk 0;".repeat(4) + "thing 1 0;".repeat(3) + "play 1 1;".repeat(2) + "troupe 40;"
                + "train 0 1 9;");
        send(0, 0, NONE);
        tellFault("x", 1, 0);
        tellFault("x", 1, 0);
        for (int i = 0; i < 3; i++) {
            night(-1, 0, 0, NONE);
        }
        send(0, 1, 9);
        days(99, 99);
        days(99, 198);
        seed(0);
        night(7, 0, 0, 1);
        feedText(" ".repeat(60));
        int[] due = {5, 4, 3, 2, 40, 198, 1, 3, 1, 60, 2, 1, 3};
        for (int what = 0; what < due.length; what++) {
            count(what, due[what]);
        }
        String before = state();
        count(13, MISSING);
        count(-1, MISSING);
        for (int far : FAR) {
            count(far, MISSING);
        }
        unchanged(before);
    }

    private static void factsOfTownsAndTrunks() {
        start("Promise 6: NoSuchElementException: no such TOWN (as everywhere), what.");
        tell(TOWN + "town lazy 1000 lends 9 99;trunk 1;trunk 1;trunk 0;thing 1 1;thing 1 0;thing 1 2;");
        int[] due = {3, 1000, 9, 99, 3, 3};
        String before = state();
        for (int what = 0; what < 6; what++) {
            town(1, what, due[what]);
            town(2, what, MISSING);
            town(-1, what, MISSING);
        }
        town(0, 4, 4);
        town(0, 5, 4);
        town(0, 6, MISSING);
        town(0, -1, MISSING);
        town(2, 6, MISSING);
        unchanged(before);
        start("Promise 7: 0 the TOWN where it is (NONE: on its way), 1 to which it comes (or is), 2 the DAY (or did)");
        tell(TOWN + TOWN + "train 0 1 1;trunk 0;trunk 1;thing 1 1;thing 1 1;");
        days(5, 5);
        trunk(0, 0, 0);
        trunk(0, 1, 0);
        trunk(0, 2, 0);
        trunk(0, 3, 0);
        trunk(1, 3, 3);
        send(0, 1, 6);
        trunk(0, 0, NONE);
        trunk(0, 1, 1);
        trunk(0, 2, 6);
        days(1, 6);
        trunk(0, 0, 1);
        days(1, 7);
        trunk(0, 2, 6);
        start("Promise 7: NoSuchElementException: no such TRUNK (as everywhere), what.");
        tell(TOWN + "trunk 0;trunk 0;");
        before = state();
        for (int what = 0; what < 4; what++) {
            trunk(2, what, MISSING);
            trunk(-1, what, MISSING);
        }
        trunk(1, 4, MISSING);
        trunk(1, -1, MISSING);
        trunk(2, 4, MISSING);
        unchanged(before);
    }

    private static void noSuchThings() {
        // the world has as many as there can be, so that a row's end is the boundary, too
        String full = "town careful lends 4 1;".repeat(5) + "trunk 0;".repeat(5) + "play 1 1;".repeat(4);
        start("no such TOWN (as everywhere)");
        tell(full);
        String before = state();
        for (int no : new int[] {-1, 5}) {
            town(no, 0, MISSING);
            way(no, 0, MISSING);
            way(0, no, MISSING);
            price(0, no, 0, MISSING);
            filled(0, no, 0, MISSING);
            tonight(no, MISSING, MISSING);
            both(no, 0, MISSING, MISSING);
            both(0, no, MISSING, MISSING);
            send(0, no, MISSING);
            clerk(no, 0, NONE, MISSING);
            clerk(0, no, NONE, MISSING);
            lost(no, 0, 0, MISSING, MISSING);
            lost(0, no, 0, MISSING, MISSING);
            night(0, no, 0, MISSING);
            unopened(0, no, 101, NONE, NONE, MISSING);
        }
        unchanged(before);
        town(4, 0, 0);
        way(4, 4, 0);
        price(0, 4, 0, 1);
        filled(0, 4, 0, 99);
        tonight(4, 0, 1);
        both(4, 3, 0, 2);
        night(0, 4, 0, 1);
        unopened(0, 4, 101, NONE, NONE, 1);
        start("no such TRUNK (as everywhere)");
        tell(full);
        tour(0);
        before = state();
        for (int no : new int[] {-1, 5}) {
            trunk(no, 0, MISSING);
            send(no, 0, MISSING);
            due("rides(" + no + ")", MISSING, () -> x.rides(no));
        }
        unchanged(before);
        trunk(4, 0, 0);
        send(4, 0, NONE);
        rides(0, 0, 0, 0, 0);
        start("no such PLAY (as everywhere)");
        tell(full);
        before = state();
        for (int no : new int[] {-1, 4}) {
            price(no, 0, 0, MISSING);
            filled(no, 0, 0, MISSING);
            night(0, 0, no, MISSING);
            unopened(no, 0, 101, NONE, NONE, MISSING);
        }
        unchanged(before);
        price(3, 0, 0, 1);
        filled(3, 0, 0, 99);
        night(0, 0, 3, 1);
        unopened(3, 0, 101, NONE, NONE, 1);
    }

    private static void farNumbers() {
        for (int far : FAR) {
            start("no such one, far away: " + far);
            tell("town careful lends 4 1;".repeat(2) + "train 0 1 1;trunk 0;thing 1 0;play 1 1;");
            tour(0);
            String before = state();
            town(far, 0, MISSING);
            town(0, far, MISSING);
            trunk(far, 0, MISSING);
            trunk(0, far, MISSING);
            way(far, 0, MISSING);
            way(0, far, MISSING);
            price(far, 0, 0, MISSING);
            price(0, far, 0, MISSING);
            price(0, 0, far, BAD);
            filled(far, 0, 0, MISSING);
            filled(0, far, 0, MISSING);
            filled(0, 0, far, MISSING);
            tonight(far, MISSING, MISSING);
            due("tonight(0, far)", MISSING, () -> x.tonight(0, far));
            both(far, 0, MISSING, MISSING);
            both(0, far, MISSING, MISSING);
            both(far, far, MISSING, MISSING);
            due("both(0, 1, far)", MISSING, () -> x.both(0, 1, far));
            send(far, 0, MISSING);
            send(0, far, MISSING);
            clerk(far, 0, NONE, MISSING);
            clerk(0, far, NONE, MISSING);
            clerk(0, 1, far, MISSING);
            lost(far, 1, 0, MISSING, MISSING);
            lost(0, far, 0, MISSING, MISSING);
            lost(0, 1, far, MISSING, MISSING);
            due("lost(0, 1, 0, far)", MISSING, () -> x.lost(0, 1, 0, far));
            night(0, far, 0, MISSING);
            night(0, 0, far, MISSING);
            due("rides(far)", MISSING, () -> x.rides(far));
            due("spared(far)", MISSING, () -> x.spared(far));
            unopened(far, 0, 101, NONE, NONE, MISSING);
            unopened(0, far, 101, NONE, NONE, MISSING);
            unchanged(before);
        }
    }

    private static void manyCalls() {
        start("An object is used for at most 512 calls: of days()");
        for (int i = 1; i <= 511; i++) {
            days(99, 99 * i);
        }
        count(7, 100);
        start("An object is used for at most 512 calls: SENDINGS, far on");
        tell(TOWN + TOWN + "train 0 1 9;train 1 0 9;trunk 0;");
        for (int i = 1; i <= 250; i++) {
            send(0, i % 2, 99 * i - 90);
            days(99, 99 * i);
        }
        start("An object is used for at most 512 calls: STATUS");
        tell(TOWN + "trunk 0;play 1 1;");
        for (int i = 1; i <= 250; i++) {
            send(0, 0, NONE);
            night(100, 0, 0, NONE);
        }
        count(11, 250);
        count(12, 250);
        start("An object is used for at most 512 calls: TEXTS");
        for (int i = 1; i <= 120; i++) {
            tellFault("x", 1, 0);
        }
        count(10, 120);
        count(0, 0);
    }
}
