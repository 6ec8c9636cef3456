/** The sentences of "What it is" and of the Terms that name a boundary case, but for the refusals. */
public final class TermsTest {
    private static final int LAST = 10;
    private static final Due due = new Due();

    public static void main(String[] args) {
        due.sentence(Due.TERMS, "An object is used for at most 512 calls after it has been made", TermsTest::calls);
        due.sentence(Due.TERMS, "PLACES are 0 .. 15", TermsTest::places);
        due.sentence(Due.TERMS, "each takes at most so many units", TermsTest::placeTakes);
        due.sentence(Due.TERMS, "those within others counted", TermsTest::placeTakesWithin);
        due.sentence(Due.TERMS, "(20 at first)", TermsTest::twentyAtFirst);
        due.sentence(Due.TERMS, "GOODS are 0 .. 7", TermsTest::goods);
        due.sentence(Due.TERMS, "each of so many grams a piece (100 at first)", TermsTest::gramsAtFirst);
        due.sentence(Due.TERMS, "LOTS 0 .. 15 as they come", TermsTest::lots);
        due.sentence(Due.TERMS, "each of one good with a last day", TermsTest::lotsOfOneGood);
        due.sentence(Due.TERMS, "OWNERS are 0 .. 7", TermsTest::owners);
        due.sentence(Due.TERMS, "There is ROOM for so many units that were ever made", TermsTest::everMade);
        due.sentence(Due.TERMS, "(64 at first)", TermsTest::sixtyFourAtFirst);
        due.sentence(Due.TERMS, "and for 400 ROWS of history", TermsTest::fourHundredRows);
        due.sentence(Due.TERMS, "By state(): from GOOD to HELD and DAMAGED", () -> ways(0, 1, 2, 5));
        due.sentence(Due.TERMS, "from HELD to GOOD and DAMAGED", () -> ways(1, 0, 2, 5));
        due.sentence(Due.TERMS, "from DAMAGED to HELD", () -> ways(2, 1, 5));
        due.sentence(Due.TERMS, "from these and EXPIRED to GONE", TermsTest::waysToGone);
        due.sentence(Due.TERMS, "A unit that is GOOD or HELD becomes EXPIRED", TermsTest::whatExpires);
        due.sentence(Due.TERMS, "when the day is behind its lot's last one", TermsTest::dayBehind);
        due.sentence(Due.TERMS, "(HELD and GOOD can't be come to then)", TermsTest::notComeToThen);
        due.sentence(Due.TERMS, "LOST is come to by lost() from any but GONE", TermsTest::lostFromAny);
        due.sentence(Due.TERMS, "left by found(), which makes it HELD", TermsTest::foundHeld);
        due.sentence(Due.TERMS, "or EXPIRED, if its day is over", TermsTest::foundExpired);
        due.sentence(Due.TERMS, "What is LOST or GONE stands nowhere.", TermsTest::standsNowhere);
        due.sentence(Due.TERMS, "GONE ones become GONE", () -> takenAlong(5));
        due.sentence(Due.TERMS, "LOST ones LOST with it", () -> takenAlong(4));
        due.sentence(Due.TERMS, "each lies in nothing then", TermsTest::lieInNothing);
        due.sentence(Due.TERMS, "a unit may lie in another one at the same place", TermsTest::samePlace);
        due.sentence(Due.TERMS, "at most 5 deep", TermsTest::fiveDeep);
        due.sentence(Due.TERMS, "(a unit at a place itself is 1 deep)", TermsTest::oneDeep);
        due.sentence(Due.TERMS, "it goes where that goes", TermsTest::goesAlong);
        due.sentence(Due.TERMS, "STANDING are units that are not LOST or GONE.", TermsTest::standing);
        due.sentence(Due.TERMS, "each act that changes a unit adds one for it", TermsTest::oneRowAnAct);
        due.sentence(Due.TERMS, "Of split and join the unit that stays has a row", TermsTest::rowOfWhatStays);
        due.sentence(Due.TERMS, "a new one that it is made", TermsTest::rowOfTheNewOne);
        due.sentence(Due.TERMS, "a joined one that it is joined (with the other's number) and is GONE",
                TermsTest::rowOfTheJoinedOne);
        due.sentence(Due.TERMS, "Those that go along with others have none", TermsTest::noRowsOfThoseAlong);
        due.sentence(Due.TERMS, "so have those that expire", TermsTest::noRowsOfExpired);
        due.end();
    }

    private static void calls() {
        UnitRows x = Due.withUnits(1);
        for (int call = 4; call < 512; call++) {
            x.told(0, 3);
        }
        due.is("the 512th call, a split", x.split(0, 2), 1);
        UnitRows y = Due.withUnits(1);
        for (int call = 4; call <= 402; call++) {
            y.weigh(0, 1);
        }
        for (int call = 403; call < 512; call++) {
            due.refused("call " + call, Due.NO_ROOM, () -> y.weigh(0, 1));
        }
        due.is("the 512th call, a count", y.count(3), 400);
        UnitRows z = Due.withUnits(1);
        for (int call = 4; call < 510; call += 2) {
            z.rows(1);
            z.unit(1, 4, 3, 5);
        }
        due.refused("the 510th call", Due.NO_ROOM, () -> z.unit(1, 4, 3, 5));
        z.rows(64);
        due.is("the 512th call, a unit", z.unit(1, 4, 3, 5), 0);
    }

    private static void places() {
        UnitRows x = Due.withUnits(2);
        x.lost(1, 1);
        due.outside("place", Due.ARGUMENT, 0, 15, n -> x.place(n, 20));
        due.outside("unit at", Due.ARGUMENT, 0, 15, n -> x.unit(1, n, 0, 1));
        due.outside("move to", Due.ARGUMENT, 0, 15, n -> x.move(0, n));
        due.outside("found at", Due.ARGUMENT, 0, 15, n -> x.found(1, n));
        due.outside("at", Due.ARGUMENT, 0, 15, n -> x.at(n, 0));
        due.outside("sum at", Due.ARGUMENT, 0, 15, n -> x.sum(2, n));
        due.inside("place", 0, 15, n -> x.place(n, 20));
        due.inside("unit at", 0, 15, n -> x.unit(1, n, 0, 1));
        due.inside("move to", 0, 15, n -> x.move(0, n));
        due.inside("at", 0, 15, n -> x.at(n, 0));
        due.inside("sum at", 0, 15, n -> x.sum(2, n));
        due.done("found at 0", () -> x.found(1, 0));
        x.lost(1, 1);
        due.done("found at 15", () -> x.found(1, 15));
    }

    private static void placeTakes() {
        UnitRows x = Due.withUnits(2);
        x.place(4, 3);
        x.place(5, 1);
        due.done("a third of three", () -> x.unit(1, 4, 3, 5));
        due.refused("a fourth of three", Due.NO_ROOM, () -> x.unit(1, 4, 3, 5));
        due.done("one of one", () -> x.unit(1, 5, 3, 5));
        due.refused("a second of one", Due.NO_ROOM, () -> x.unit(1, 5, 3, 5));
        x.move(3, 6);
        due.done("the place is free again", () -> x.unit(1, 5, 3, 5));
    }

    private static void placeTakesWithin() {
        UnitRows x = Due.withChain(5, 5);
        due.refused("only one stands at the place itself", Due.INDEX, () -> x.at(4, 1));
        due.refused("five are more than four", Due.STATE, () -> x.place(4, 4));
        x.place(4, 5);
        due.refused("a sixth of five", Due.NO_ROOM, () -> x.unit(1, 4, 3, 5));
        x.place(7, 4);
        due.refused("five go where four may be", Due.NO_ROOM, () -> x.move(0, 7));
        due.done("four go there", () -> x.move(1, 7));
        due.done("four are free now", () -> x.unit(1, 4, 3, 5));
    }

    private static void twentyAtFirst() {
        for (int place = 0; place < 16; place++) {
            int there = place;
            UnitRows x = Due.withLots();
            for (int i = 0; i < 20; i++) {
                due.is("unit at " + place, x.unit(1, place, 0, 1), i);
            }
            due.refused("a 21st at " + place, Due.NO_ROOM, () -> x.unit(1, there, 0, 1));
        }
    }

    private static void goods() {
        UnitRows x = new UnitRows();
        due.outside("good", Due.ARGUMENT, 0, 7, n -> x.good(n, 1));
        due.outside("lot of", Due.ARGUMENT, 0, 7, n -> x.lot(n, 0));
        due.outside("sum of", Due.ARGUMENT, 0, 7, n -> x.sum(n, 0));
        due.inside("good", 0, 7, n -> x.good(n, 1));
        due.inside("lot of", 0, 7, n -> x.lot(n, 0));
        due.inside("sum of", 0, 7, n -> x.sum(n, 0));
    }

    private static void gramsAtFirst() {
        UnitRows x = new UnitRows();
        for (int good = 0; good < 8; good++) {
            x.lot(good, 0);
            x.unit(good, 0, 0, 3);
            due.is("three pieces of good " + good, x.weigh(good, 1000), 1000 - 300);
        }
    }

    private static void lots() {
        UnitRows x = new UnitRows();
        for (int lot = 0; lot < 16; lot++) {
            int next = lot;
            due.refused("unit of the lot that comes next", Due.NO_SUCH, () -> x.unit(next, 0, 0, 1));
            due.is("lot", x.lot(7 - lot % 8, lot), lot);
            due.is("unit of it", x.unit(lot, 0, 0, 1), lot);
            due.is("its lot", x.told(lot, 4), lot);
        }
        due.outside("unit of", Due.NO_SUCH, 0, 15, n -> x.unit(n, 0, 0, 1));
        due.refused("lot 16", Due.NO_ROOM, () -> x.lot(0, 0));
    }

    private static void lotsOfOneGood() {
        UnitRows x = new UnitRows();
        for (int lot = 0; lot < 16; lot++) {
            x.lot(lot % 8, lot < 8 ? lot : 1000 - lot);
            x.unit(lot, lot % 2, 0, lot + 1);
        }
        for (int good = 0; good < 8; good++) {
            due.is("sum of good " + good, x.sum(good, good % 2), good + 1 + good + 9);
            due.is("elsewhere", x.sum(good, 1 - good % 2), 0);
        }
        for (int day = 1; day <= 8; day++) {
            due.is("expired on day " + day, x.day(day), 1);
            due.is("it is the lot's own", x.told(day - 1, 0), 3);
            due.is("the next is GOOD", x.told(day, 0), 0);
        }
        due.is("none before day 986", x.day(985), 0);
        due.is("lot 15 on day 986", x.day(986), 1);
        due.is("lot 15 has expired", x.told(15, 0), 3);
        due.is("all others by day 1000", x.day(1000), 7);
    }

    private static void owners() {
        UnitRows x = Due.withLots();
        due.outside("owner", Due.ARGUMENT, 0, 7, n -> x.unit(1, 0, n, 1));
        for (int owner = 0; owner < 8; owner++) {
            due.is("unit", x.unit(1, 0, owner, 1), owner);
            due.is("its owner", x.told(owner, 5), owner);
        }
    }

    private static void everMade() {
        UnitRows x = Due.withLots();
        x.rows(5);
        for (int i = 0; i < 4; i++) {
            x.unit(1, 4, 3, 5);
        }
        x.lost(0, 1);
        x.state(1, 5);
        x.join(2, 3);
        due.is("one stands", x.count(1), 1);
        due.is("the fifth", x.split(2, 1), 4);
        due.refused("a sixth of five", Due.NO_ROOM, () -> x.unit(1, 4, 3, 5));
        due.refused("a sixth by split", Due.NO_ROOM, () -> x.split(2, 1));
        due.done("a found one is not a new one", () -> x.found(0, 4));
    }

    private static void sixtyFourAtFirst() {
        UnitRows x = Due.withLots();
        for (int i = 0; i < 63; i++) {
            due.is("unit", x.unit(1, i % 16, 0, 5), i);
        }
        due.is("the 64th, by split", x.split(0, 1), 63);
        due.refused("a 65th", Due.NO_ROOM, () -> x.unit(1, 15, 0, 1));
        due.refused("a 65th, by split", Due.NO_ROOM, () -> x.split(0, 1));
    }

    private static void fourHundredRows() {
        UnitRows x = Due.withUnits(2);
        for (int row = 2; row < 400; row++) {
            x.weigh(row % 2, row);
        }
        due.is("rows", x.count(3), 400);
        due.refused("a 401st", Due.NO_ROOM, () -> x.weigh(1, 1));
        due.refused("a 401st, of a new unit", Due.NO_ROOM, () -> x.unit(1, 0, 0, 1));
        due.is("rows after the refusals", x.count(3), 400);
        due.hasRow("the 399th", x, 0, 199, 11, 0, 398);
        due.hasRow("the 400th", x, 1, 199, 11, 0, 399);
        x.rows(64);
        x.unit(1, 0, 0, 1);
        Due.leaveRows(x, 350);
        due.is("rows after rows()", x.count(3), 50);
    }

    /** Where state() leads from a state on the lot's last day, and where it doesn't. */
    private static void ways(int from, int... open) {
        for (int to = 0; to < 6; to++) {
            int next = to;
            UnitRows x = Due.inState(from);
            x.day(LAST);
            boolean leads = false;
            for (int way : open) {
                leads |= way == to;
            }
            String what = "from " + from + " to " + to;
            due.refused(what, leads ? null : Due.STATE, () -> x.state(0, next));
            due.is(what + ": state", x.told(0, 0), leads ? to : from);
        }
    }

    private static void waysToGone() {
        for (int from = 0; from < 4; from++) {
            UnitRows x = Due.inState(from);
            due.done("from " + from + " to GONE", () -> x.state(0, 5));
            due.is("from " + from + ": state", x.told(0, 0), 5);
        }
        for (int from = 3; from < 6; from++) {
            UnitRows x = Due.inState(from);
            for (int to = 0; to < (from == 3 ? 5 : 6); to++) {
                int next = to;
                due.refused("from " + from + " to " + to, Due.STATE, () -> x.state(0, next));
                due.is("from " + from + ": state", x.told(0, 0), from);
            }
        }
    }

    private static void whatExpires() {
        int[] after = {3, 3, 2, 3, 4, 5};
        for (int state = 0; state < 6; state++) {
            UnitRows x = Due.inState(state);
            x.day(LAST + 1);
            due.is("state " + state + " behind the last day", x.told(0, 0), after[state]);
        }
    }

    private static void dayBehind() {
        int[] lasts = {0, 1, 10, 999, 1000};
        for (int last : lasts) {
            UnitRows x = new UnitRows();
            x.lot(0, last);
            x.unit(0, 0, 0, 1);
            x.unit(0, 0, 0, 1);
            x.state(1, 1);
            x.day(last);
            due.is("GOOD on its last day " + last, x.told(0, 0), 0);
            due.is("HELD on its last day " + last, x.told(1, 0), 1);
            if (last < 1000) {
                x.day(last + 1);
                due.is("GOOD a day behind " + last, x.told(0, 0), 3);
                due.is("HELD a day behind " + last, x.told(1, 0), 3);
            }
        }
    }

    private static void notComeToThen() {
        UnitRows x = Due.inState(2);
        x.day(LAST + 1);
        due.refused("DAMAGED to HELD", Due.STATE, () -> x.state(0, 1));
        due.refused("DAMAGED to GOOD", Due.STATE, () -> x.state(0, 0));
        due.is("DAMAGED still", x.told(0, 0), 2);
        due.done("DAMAGED to GONE", () -> x.state(0, 5));
        UnitRows y = Due.inState(3);
        due.refused("EXPIRED to HELD", Due.STATE, () -> y.state(0, 1));
        due.refused("EXPIRED to GOOD", Due.STATE, () -> y.state(0, 0));
        due.is("EXPIRED still", y.told(0, 0), 3);
        UnitRows z = Due.inState(2);
        z.day(LAST);
        due.done("DAMAGED to HELD on the last day", () -> z.state(0, 1));
        due.done("HELD to GOOD on the last day", () -> z.state(0, 0));
    }

    private static void lostFromAny() {
        for (int state = 0; state < 4; state++) {
            UnitRows x = Due.inState(state);
            due.done("lost from " + state, () -> x.lost(0, 1));
            due.is("lost from " + state, x.told(0, 0), 4);
        }
        UnitRows x = Due.inState(5);
        due.refused("lost from GONE", Due.STATE, () -> x.lost(0, 1));
        due.is("GONE still", x.told(0, 0), 5);
        UnitRows y = Due.inState(0);
        due.refused("LOST is not come to by state()", Due.STATE, () -> y.state(0, 4));
    }

    private static void foundHeld() {
        for (int state = 0; state < 3; state++) {
            UnitRows x = Due.inState(state);
            x.lost(0, 1);
            x.day(LAST);
            x.found(0, 0);
            due.is("lost from " + state + ", found on the last day", x.told(0, 0), 1);
        }
    }

    private static void foundExpired() {
        for (int state = 0; state < 4; state++) {
            UnitRows x = Due.inState(state);
            x.lost(0, 1);
            due.is("LOST ones don't expire", x.day(LAST + 1), 0);
            due.is("LOST still", x.told(0, 0), 4);
            x.found(0, 0);
            due.is("lost from " + state + ", found a day behind", x.told(0, 0), 3);
        }
    }

    private static void standsNowhere() {
        UnitRows x = Due.withLostAndGone();
        for (int unit = 1; unit < 3; unit++) {
            due.is("place of " + unit, x.told(unit, 1), -1);
            due.is("depth of " + unit, x.told(unit, 6), 0);
        }
        due.is("at its place stands the other", x.at(4, 0), 0);
        due.refused("and nothing else", Due.INDEX, () -> x.at(4, 1));
        due.is("pieces there", x.sum(2, 4), 5);
        due.done("one unit is there", () -> x.place(4, 1));
    }

    private static void takenAlong(int state) {
        UnitRows x = Due.withChain(8, 5);
        x.into(5, 1);
        x.into(6, 0);
        x.state(2, 1);
        x.state(3, 2);
        if (state == 5) {
            x.state(1, 5);
        } else {
            x.lost(1, 1);
        }
        int[] after = {0, state, state, state, state, state, 0, 0};
        for (int unit = 0; unit < after.length; unit++) {
            due.is("state of " + unit, x.told(unit, 0), after[unit]);
            due.is("place of " + unit, x.told(unit, 1), after[unit] == 0 ? 4 : -1);
        }
        due.is("units that stand", x.count(1), 3);
    }

    private static void lieInNothing() {
        for (int state = 4; state < 6; state++) {
            UnitRows x = Due.withChain(5, 5);
            if (state == 5) {
                x.state(1, 5);
            } else {
                x.lost(1, 1);
            }
            for (int unit = 0; unit < 5; unit++) {
                due.is("container of " + unit, x.told(unit, 2), -1);
                due.is("within " + unit, x.told(unit, 7), 0);
            }
        }
        UnitRows y = Due.withChain(3, 3);
        y.lost(0, 1);
        y.found(2, 9);
        due.is("the innermost, found by itself", y.told(2, 2), -1);
        y.found(0, 9);
        due.is("nothing lies in the outermost", y.told(0, 7), 0);
        due.is("the one between is LOST still", y.told(1, 0), 4);
    }

    private static void samePlace() {
        UnitRows x = Due.withUnits(3);
        x.move(1, 5);
        due.refused("another place", Due.STATE, () -> x.into(1, 0));
        due.refused("the other way", Due.STATE, () -> x.into(0, 1));
        due.done("the same place", () -> x.into(2, 0));
        due.is("where it lies", x.told(2, 1), 4);
    }

    private static void fiveDeep() {
        UnitRows x = Due.withChain(7, 5);
        due.is("the fifth", x.told(4, 6), 5);
        due.refused("a sixth", Due.STATE, () -> x.into(5, 4));
        due.done("beside the fifth", () -> x.into(5, 3));
        due.refused("five in another", Due.STATE, () -> x.into(0, 6));
        due.is("the first stays", x.told(0, 6), 1);
        x.split(4, 1);
        due.is("a split one is no deeper", x.told(7, 6), 5);
    }

    private static void oneDeep() {
        UnitRows x = Due.withChain(3, 2);
        due.is("at the place itself", x.told(0, 6), 1);
        due.is("in one there", x.told(1, 6), 2);
        due.is("an empty one", x.told(2, 6), 1);
        x.out(1);
        due.is("taken out", x.told(1, 6), 1);
    }

    private static void goesAlong() {
        UnitRows x = Due.withChain(6, 5);
        x.move(0, 15);
        x.move(0, 0);
        for (int unit = 0; unit < 5; unit++) {
            due.is("place of " + unit, x.told(unit, 1), 0);
            due.is("depth of " + unit, x.told(unit, 6), unit + 1);
        }
        due.is("one that lay beside", x.told(5, 1), 4);
        x.into(2, 0);
        due.is("the depth of what goes along into another", x.told(4, 6), 4);
        due.is("its container", x.told(4, 2), 3);
    }

    private static void standing() {
        int[] stands = {1, 1, 1, 1, 0, 0};
        for (int state = 0; state < 6; state++) {
            UnitRows x = Due.inState(state);
            due.is("standing, in state " + state, x.count(1), stands[state]);
            due.refused("weigh in state " + state, stands[state] == 1 ? null : Due.STATE, () -> x.weigh(0, 1));
        }
    }

    private static void oneRowAnAct() {
        UnitRows x = Due.withUnits(2);
        x.unit(1, 6, 3, 1);
        due.hasRow("made", x, 2, 0, 1, 0, 6);
        x.day(1);
        x.move(0, 9);
        due.hasRow("moved", x, 0, 1, 2, 1, 9);
        x.day(2);
        x.move(1, 9);
        x.into(1, 0);
        due.hasRow("put in", x, 1, 2, 3, 2, 0);
        x.day(3);
        x.out(1);
        due.hasRow("taken out", x, 1, 3, 4, 3, 9);
        x.split(1, 2);
        due.hasRow("split", x, 1, 4, 5, 3, 3);
        x.join(1, 3);
        due.hasRow("joined", x, 1, 5, 6, 3, 3);
        x.day(1000);
        x.state(1, 2);
        due.hasRow("state", x, 1, 6, 7, 1000, 2);
        x.serial(2, 9999999999L);
        due.hasRow("serial", x, 2, 1, 8, 1000, 0);
        x.lost(2, 9);
        due.hasRow("lost", x, 2, 2, 9, 1000, 9);
        x.found(2, 15);
        due.hasRow("found", x, 2, 3, 10, 1000, 15);
        x.weigh(2, 100000000);
        due.hasRow("weighed", x, 2, 4, 11, 1000, 100000000);
        int[] rows = {2, 7, 5, 2};
        for (int unit = 0; unit < rows.length; unit++) {
            due.is("rows of " + unit, Due.rowsOf(x, unit), rows[unit]);
        }
        due.is("rows of all", x.count(3), 16);
    }

    private static void rowOfWhatStays() {
        UnitRows x = Due.withUnits(2);
        x.day(5);
        x.split(0, 1);
        due.hasRow("split", x, 0, 1, 5, 5, 2);
        x.join(1, 0);
        due.hasRow("joined", x, 1, 1, 6, 5, 0);
        due.is("rows of all", x.count(3), 2 + 2 + 2);
    }

    private static void rowOfTheNewOne() {
        UnitRows x = Due.withUnits(1);
        x.move(0, 8);
        x.day(5);
        x.split(0, 1);
        due.hasRow("made", x, 1, 0, 1, 5, 8);
        due.is("its rows", Due.rowsOf(x, 1), 1);
    }

    private static void rowOfTheJoinedOne() {
        UnitRows x = Due.withUnits(3);
        x.day(5);
        x.join(1, 2);
        due.hasRow("joined", x, 2, 1, 6, 5, 1);
        due.is("its rows", Due.rowsOf(x, 2), 2);
        due.is("it is GONE", x.told(2, 0), 5);
        due.is("the other is not", x.told(1, 0), 0);
    }

    private static void noRowsOfThoseAlong() {
        UnitRows x = Due.withChain(4, 4);
        x.move(0, 5);
        x.move(1, 5);
        x.into(1, 0);
        x.out(1);
        x.lost(1, 1);
        x.found(1, 5);
        x.state(0, 5);
        int[] rows = {3, 7, 2, 2};
        for (int unit = 0; unit < rows.length; unit++) {
            due.is("rows of " + unit, Due.rowsOf(x, unit), rows[unit]);
        }
        UnitRows y = Due.withChain(4, 4);
        y.state(0, 5);
        due.is("GONE with another, no row", y.count(3), 4 + 3 + 1);
        due.is("rows of the innermost", Due.rowsOf(y, 3), 2);
    }

    private static void noRowsOfExpired() {
        UnitRows x = Due.inState(0);
        x.unit(0, 0, 0, 1);
        x.state(1, 1);
        due.is("both expire", x.day(LAST + 1), 2);
        due.is("rows of all", x.count(3), 3);
        due.is("rows of the first", Due.rowsOf(x, 0), 1);
        due.is("rows of the second", Due.rowsOf(x, 1), 2);
    }
}
