/** What "Terms" tells of findings, lots, people and days, at its edges. */
final class EdgesOfTerms {
    private EdgesOfTerms() {
    }

    static void all(Edges e) {
        findings(e.due);
        generally(e);
        trust(e);
        standing(e);
        losing(e);
        makingFor(e);
        fogInADay(e);
        falling(e);
        coming(e);
        rents(e);
        beliefs(e);
        dayAndDraws(e);
    }

    /** The numbers themselves; elsewhere they have their names. */
    private static void findings(Due due) {
        FogLots x = new FogLots();
        due.is("Terms: LOW BEYOND", x.person(7), -1000001);
        due.is("Terms: in longs, too", x.odds(0, 0, 0), -1000001L);
        x.feed(0, 4);
        for (int i = 0; i < 29; i++) {
            x.feed(0, 4);
        }
        due.is("Terms: LOW - 1 FULL", x.feed(0, 1), -1000002);
        x.person(0);
        x.hold(0, 0);
        due.is("Terms: LOW - 2 KIND", x.as(0, 1), -1000003);
        due.is("Terms: LOW - 3 NONE", x.undo(), -1000004);
        due.is("Terms: LOW - 5 MISSING", x.load(0), -1000006);
        due.is("Terms: LOW - 6 SIZE", x.sheet(0, 8, -1), -1000007);
        while (x.now(0) < 99960) {
            x.go(60);
        }
        due.is("Terms: LOW - 4 STATE", x.go(40), -1000005);
    }

    private static void generally(Edges e) {
        e.edge("Terms: quotients are cut (towards 0), below 0, too",
            "fogs(50 53 50 50 50 50 50 50 50 50) | fog(0..9, 1) = 50 53 50 50 50 50 50 50 50 50",
            "fogs(50 54 50 50 50 50 50 50 50 50) | fog(0..9, 1) = 51 52 51 50 50 50 50 50 50 50",
            "fogs(50 57 50 50 50 50 50 50 50 50) | fog(0..9, 1) = 51 55 51 50 50 50 50 50 50 50",
            "fogs(50 58 50 50 50 50 50 50 50 50) | fog(0..9, 1) = 52 54 52 50 50 50 50 50 50 50");
        e.edge("Terms: of several that would do the least number counts",
            "now(5) = 0 | lot(9, 0, 60) | now(5) = 9 | lot(4, 0, 60) | now(5) = 4 | lot(5, 0, 60) | now(5) = 4",
            "people(4 4 4) | now(6) = 0 | change(2, 3, 51) | now(6) = 2 | change(1, 3, 51) | now(6) = 1",
            "settle(0, 9) = 0 | kindFor(0, 9) = 0 | lot(0, 2, 0) | rentFor(0, 9) = 0");
        e.edge("Terms: sets are told as bits, the least for 0 and the greatest for the last",
            "people(4 4 4 4 4 4 4 4) | change(0 7, 1, 9) | lotOf(9, 3) = 0b10000001 | now(2) = 0b10000001",
            "lot(0 9, 2, 7) | of(7, 7) = 0b1000000001 | now(7) = 0b0111111110");
    }

    // ---- 1

    private static void trust(Edges e) {
        e.edge("Terms 1: TRUST of a PERSON is half (cut) of BELIEF",
            "person(0) | trustWith(0, 0 9, 0 1 2 3 98 99) = 0 0 1 1 49 49 0 0 1 1 49 49");
        e.edge("Terms 1: TRUST of a COTTAGER is as a PERSON's, and 20",
            "person(1) | trustWith(0, 0, 0 1 2 99) = 20 20 21 69");
        e.edge("Terms 1: TRUST of a PUPIL has 2 more for each other one ON the LOT: none",
            "person(6) | trustWith(0, 0, 0 1 2 99) = 20 20 21 69");
        e.edge("Terms 1: .. itself ON it is no other one, nor is one ON another LOT or in a boat",
            "people(6 0 0) | change(0, 1, 3) | change(1, 1, 4) | trust(0, 3) = 45 | trust(0, 4) = 47",
            "trust(0, 5) = 45");
        e.edge("Terms 1: .. all seven others",
            "people(0 1 2 3 4 5 6 6) | change(0..7, 1, 9) | trust(6 7, 9) = 59 | trust(6 7, 8) = 45",
            "change(7, 1, -1) | trust(6 7, 9) = 57 59");
        e.edge("Terms 1: TRUST of a SURVEYOR is as a PERSON's, less 10 (0 at least)",
            "person(2) | trustWith(0, 0, 0 1 19 20 21 22 99) = 0 0 0 0 0 1 39");
        e.edge("Terms 1: TRUST of a MAYOR is as a SURVEYOR's (0 at least), and 30, if it OWNS the LOT",
            "people(3 3) | lot(4, 2, 0) | lot(5, 2, 1)",
            "trustWith(0, 4, 0 19 20 21 22 99) = 30 30 30 30 31 69",
            "trustWith(0, 5, 0 19 20 21 22 99) = 0 0 0 0 1 39 | trustWith(0, 6, 0 21 22 99) = 0 0 1 39");
        e.edge("Terms 1: TRUST of a MEMBER is 60, whatever it believes",
            "person(4) | trustWith(0, 0, 0 1 50 99) = 60 | lot(0, 2, 0) | trustWith(0, 0, 0 99) = 60");
        e.edge("Terms 1: TRUST of a DOUBTER is 0, whatever it believes",
            "person(5) | trustWith(0, 0, 0 1 50 99) = 0 | lot(0, 2, 0) | trustWith(0, 0, 0 99) = 0");
    }

    private static void standing(Edges e) {
        e.edge("Terms 1: STANDS if FOG and TRUST are 60 or more together: 60 do, 59 don't",
            "people(0 1 2 3 4 5 6)",
            "fogs(35) | lotOf(3, 4) = 0b1010011 | fogs(34) | lotOf(3, 4) = 0b1010010",
            "fogs(15) | lotOf(3, 4) = 0b1010010 | fogs(14) | lotOf(3, 4) = 0b0010000",
            "fogs(45) | lotOf(3, 4) = 0b1011111 | fogs(44) | lotOf(3, 4) = 0b1010011",
            "fogs(60) | lotOf(3, 4) = 0b1111111 | fogs(59) | lotOf(3, 4) = 0b1011111",
            "fogs(0) | lotOf(3, 4) = 0b0010000");
        e.edge("Terms 1: .. as it is in a DAY: 60 do, 59 don't",
            "people(0 0) | change(0 1, 1, 3) | change(0, 2, 20) | change(1, 2, 19) | go(1) = 0b01",
            "of(0..1, 4) = 0 1");
        e.edge("Terms 1: .. a PUPIL by those beside it, a MAYOR where it OWNS",
            "people(6 3 0) | change(0 1 2, 2, 0) | change(2, 1, 3) | lot(4, 2, 1)",
            "fogs(38) | lotOf(3, 4) = 0b001 | lotOf(4, 4) = 0b010 | fogs(37) | lotOf(3, 4) = 0",
            "fogs(30) | lotOf(4, 4) = 0b010 | fogs(29) | lotOf(4, 4) = 0");
    }

    private static void losing(Edges e) {
        e.edge("Terms 1: LOSES: of each KIND", "people(0 1 2 3 4 5 6) | of(0..6, 5) = 10 2 10 5 0 20 2");
        e.edge("Terms 1: LOSES is of the KIND alone",
            "person(5) | change(0, 2, 0) | of(0, 5) = 20 | change(0, 0, 3) = 5",
            "of(0, 5) = 5 | lot(0, 2, 0) | change(0, 1, 0) | of(0, 5) = 5");
    }

    private static void makingFor(Edges e) {
        e.edge("Terms 1: MAKES FOR that of most FOG (of several the least), of those on which it STANDS",
            "people(0 1 5) | fogs(50 60 70 70 60 50 70 50 50 50) | of(0..2, 6) = 2",
            "lot(9, 0, 71) | of(0..2, 6) = 9 | lot(0, 0, 71) | of(0..2, 6) = 0");
        e.edge("Terms 1: MAKES FOR that of least RENT (of several the least), of those on which it STANDS",
            "people(2 3 4) | lot(0..9, 1, 20) | of(0..2, 6) = 0 | lot(3 5, 1, 19) | of(0..2, 6) = 3",
            "lot(9, 1, 0) | of(0..2, 6) = 9 | lot(9, 0, 44) | of(0..2, 6) = 3 3 9",
            "lot(9, 0, 45) | of(0..2, 6) = 9 | lot(0, 1, 0) | of(0..2, 6) = 0");
        e.edge("Terms 1: MAKES FOR the least LOT, of those on which it STANDS",
            "person(6) | of(0, 6) = 0 | fogs(14 14 14 14 14 14 14 14 14 15) | of(0, 6) = 9",
            "lot(8, 0, 15) | lot(9, 0, 99) | of(0, 6) = 8 | lot(0, 0, 15) | of(0, 6) = 0");
        e.edge("Terms 1: MAKES FOR none, if there is none",
            "people(0 1 2 3 4 5 6) | fogs(0) | of(0..6, 6) = -1 -1 -1 -1 0 -1 -1");
        e.edge("Terms 1: MAKES FOR, a MAYOR by its own LOT, a PUPIL by those ON one",
            "people(3 6 0) | change(0 1 2, 2, 0) | fogs(38) | of(0 1, 6) = -1",
            "lot(7, 2, 0) | change(2, 1, 8) | of(0 1, 6) = 7 8");
    }

    // ---- 2

    private static void fogInADay(Edges e) {
        e.edge("Terms 2: FOG is held within 0 to 99: at 0",
            "mist(0) | fogs(6) | fog(0 9, 1) = 1 | fogs(5) | fog(0 9, 1) = 0 | fogs(4) | fog(0 9, 1) = 0",
            "fogs(0) | fog(0 9, 1) = 0 | suns(40) | fogs(41) | fog(0 9, 1) = 1 | fogs(39) | fog(0 9, 1) = 0 | go(1)",
            "lotOf(0..9, 0) = 0");
        e.edge("Terms 2: FOG is held within 0 to 99: at 99",
            "suns(0) | fogs(93) | fog(0 9, 1) = 98 | fogs(94) | fog(0 9, 1) = 99 | fogs(95) | fog(0 9, 1) = 99",
            "fogs(99) | fog(0 9, 1) = 99 | mist(40) | fogs(58) | fog(0 9, 1) = 98 | fogs(60) | fog(0 9, 1) = 99",
            "go(1)",
            "lotOf(0..9, 0) = 99");
        e.edge("Terms 2: .. held when it is less by the SUN and MIST more, not in between",
            "suns(40) | mist(40) | fogs(10) | fog(0 9, 1) = 10 | fogs(0) | fog(0 9, 1) = 0 | fogs(99)",
            "fog(0 9, 1) = 99",
            "mist(39) | fogs(1) | fog(0 9, 1) = 0 | fogs(2) | fog(0 9, 1) = 1");
        e.edge("Terms 2: of each LOT but the last one a fourth (cut) goes to the next LOT, from 0 and to 9",
            "fogs(53 50 50 50 50 50 50 50 50 50) | fog(0..9, 1) = 53 50 50 50 50 50 50 50 50 50",
            "fogs(54 50 50 50 50 50 50 50 50 50) | fog(0..9, 1) = 53 51 50 50 50 50 50 50 50 50",
            "fogs(50 50 50 50 50 50 50 50 53 50) | fog(0..9, 1) = 50 50 50 50 50 50 50 50 53 50",
            "fogs(50 50 50 50 50 50 50 50 50 46) | fog(0..9, 1) = 50 50 50 50 50 50 50 50 49 47");
        e.edge("Terms 2: .. below 0: from there, from 9 and to 0",
            "fogs(50 50 50 50 50 50 50 50 50 53) | fog(0..9, 1) = 50 50 50 50 50 50 50 50 50 53",
            "fogs(50 50 50 50 50 50 50 50 50 54) | fog(0..9, 1) = 50 50 50 50 50 50 50 50 51 53",
            "fogs(47 50 50 50 50 50 50 50 50 50) | fog(0..9, 1) = 47 50 50 50 50 50 50 50 50 50",
            "fogs(46 50 50 50 50 50 50 50 50 50) | fog(0..9, 1) = 47 49 50 50 50 50 50 50 50 50");
        e.edge("Terms 2: .. all at once, with the most and the least FOG side by side",
            "fogs(99 0 0 0 0 0 0 0 0 0) | fog(0..9, 1) = 75 24 0 0 0 0 0 0 0 0",
            "fogs(0 0 0 0 0 0 0 0 0 99) | fog(0..9, 1) = 0 0 0 0 0 0 0 0 24 75",
            "fogs(99 0 99 0 99 0 99 0 99 0) | fog(0..9, 1) = 75 48 51 48 51 48 51 48 51 24");
        e.edge("Terms 2: .. of FOG as it is held behind sun and mist",
            "mist(0) | fogs(9 3 3 3 3 3 3 3 3 3) | fog(0..9, 1) = 3 1 0 0 0 0 0 0 0 0",
            "suns(0) | mist(5) | fogs(90 99 99 99 99 99 99 99 99 99) | fog(0..9, 1) = 96 98 99 99 99 99 99 99 99 99");
        e.edge("Terms 2: the SUN is that of DAY modulo 6, and the first one again behind six",
            "suns(0 1 2 3 4 5) | mist(0) | fog(3, 0..8) = 50 50 49 47 44 40 35 35 34",
            "go(5) | lotOf(3, 0) = 40 | go(1) | lotOf(3, 0) = 35 | go(1) | lotOf(3, 0) = 35 | go(1)",
            "lotOf(3, 0) = 34");
    }

    private static void falling(Edges e) {
        e.edge("Terms 2: one that doesn't STAND any more FELL once more (9999 at most)",
            "person(5) | change(0, 1, 0) | go(1) = 0 | of(0, 4) = 1 | change(0, 4, 9998) | change(0, 1, 0) | go(1) = 0",
            "of(0, 4) = 9999 | change(0, 1, 0) | go(1) = 0 | of(0, 4) = 9999 | of(0, 1) = -1");
        e.edge("Terms 2: BELIEF is what it LOSES less (0 at least)",
            "people(0 1 2 3 5 6) | fogs(0)",
            "leftByAFall(0, 99 11 10 9 0) = 89 1 0 0 0 | leftByAFall(1, 50 3 2 1 0) = 48 1 0 0 0",
            "leftByAFall(2, 99 11 10 9 0) = 89 1 0 0 0 | leftByAFall(3, 99 6 5 4 0) = 94 1 0 0 0",
            "leftByAFall(4, 99 21 20 19 0) = 79 1 0 0 0 | leftByAFall(5, 50 3 2 1 0) = 48 1 0 0 0");
        e.edge("Terms 2: .. it is in a boat (and stays there in this DAY)",
            "person(0) | change(0, 1, 0) | fogs(0 0 0 0 0 0 0 0 0 99) | go(1) = 0 | of(0, 1) = -1 | go(1) = 1",
            "of(0, 1) = 9");
        e.edge("Terms 2: PEOPLE by numbers: one that fell is beside nobody further on in this DAY",
            "people(0 6) | change(0 1, 1, 0) | change(0 1, 2, 0) | fogs(38) | go(1) = 0 | of(0..1, 4) = 1");
        e.edge("Terms 2: .. but has been beside those before it",
            "people(6 0) | change(0 1, 1, 0) | change(0 1, 2, 0) | fogs(38) | go(1) = 0b01 | of(0..1, 4) = 0 1");
        e.edge("Terms 2: a MEMBER stands on no FOG at all",
            "person(4) | change(0, 1, 0) | fogs(0) | suns(40) | mist(0) | falls(0) = NONE | go(60) = 1 | of(0, 4) = 0");
    }

    private static void coming(Edges e) {
        e.edge("Terms 2: one in a boat comes to the LOT that it MAKES FOR, if there is one",
            "person(5) | fogs(59) | go(1) = 0 | of(0, 1) = -1 | fogs(60) | go(1) = 1 | of(0, 1) = 0");
        e.edge("Terms 2: .. behind sun, mist and what goes from LOT to LOT in this DAY",
            "person(5) | fogs(59) | mist(6) | go(1) = 1 | change(0, 1, -1) | fogs(60) | mist(4) | go(1) = 0",
            "mist(5) | fogs(57 66 57 50 50 50 50 50 50 50) | go(1) = 1 | of(0, 1) = 1 | change(0, 1, -1)",
            "fogs(57 60 50 50 50 50 50 50 50 50) | go(1) = 0");
        e.edge("Terms 2: .. by numbers: beside one that came before it in this DAY",
            "people(0 6) | change(0, 2, 99) | change(1, 2, 0) | fogs(38) | go(1) = 0b11 | of(0..1, 1) = 0");
        e.edge("Terms 2: .. not beside one that comes behind it",
            "people(6 0) | change(0, 2, 0) | change(1, 2, 99) | fogs(38) | go(1) = 0b10 | go(1) = 0b11");
    }

    private static void rents(Edges e) {
        e.edge("Terms 2: one pays RENT (no more than its PURSE)",
            "people(4 4) | change(0, 1, 0) | change(1, 1, 1) | lot(0, 1, 20) | lot(0, 2, 1)",
            "change(0, 3, 21) | ahead(0 1, 3, 1) = 1 70 | change(0, 3, 20) | ahead(0 1, 3, 1) = 0 70",
            "change(0, 3, 19) | ahead(0 1, 3, 1) = 0 69 | change(0, 3, 0) | ahead(0 1, 3, 1) = 0 50",
            "lot(0, 1, 0) | change(0, 3, 9999) | ahead(0 1, 3, 1) = 9999 50");
        e.edge("Terms 2: .. to that one (9999 at most)",
            "people(4 4) | change(0, 1, 0) | change(1, 1, 1) | lot(0, 1, 2) | lot(0, 2, 1)",
            "change(1, 3, 9997) | ahead(0 1, 3, 1) = 48 9999 | change(1, 3, 9998) | ahead(0 1, 3, 1) = 48 9999",
            "change(1, 3, 9999) | ahead(0 1, 3, 1) = 48 9999 | change(1, 3, 9996) | ahead(0 1, 3, 1) = 48 9998");
        e.edge("Terms 2: .. ON a LOT that another one OWNS: not ON one's own, not ON nobody's, not in a boat",
            "people(4 4 4 5) | change(0, 1, 0) | change(1, 1, 1) | change(2, 1, 2) | lot(0..9, 1, 20)",
            "lot(0, 2, 0) | lot(2, 2, 3)",
            "go(1) = 0b0111 | of(0..3, 3) = 50 50 30 70");
        e.edge("Terms 2: .. by numbers: what one was paid in this DAY it can pay, if it comes behind",
            "people(4 4 4) | change(0..2, 3, 0) | change(0, 3, 9)",
            "change(0, 1, 0) | change(1, 1, 1) | change(2, 1, 2)",
            "lot(0, 1, 6) | lot(0, 2, 1) | lot(1, 1, 5) | lot(1, 2, 2) | lot(2, 1, 20) | lot(2, 2, 0)",
            "go(1) | of(0..2, 3) = 8 1 0");
        e.edge("Terms 2: .. who comes in this DAY pays, who falls doesn't",
            "people(4 5 0) | lot(0, 1, 7) | lot(0..9, 2, 2) | change(1, 1, 0) | lot(1..9, 1, 20) | go(1) = 0b101",
            "of(0..2, 3) = 43 50 57");
    }

    private static void beliefs(Edges e) {
        e.edge("Terms 2: one BELIEVES a fourth (cut) of by how much the greatest BELIEF of these others is more",
            "people(4 4) | change(0 1, 1, 0) | change(1, 2, 53) | ahead(0 1, 2, 1) = 50 53",
            "change(1, 2, 54) | ahead(0 1, 2, 1) = 51 54 | change(1, 2, 57) | ahead(0 1, 2, 1) = 51 57",
            "change(1, 2, 58) | ahead(0 1, 2, 1) = 52 58 | change(0, 2, 0) | change(1, 2, 99)",
            "ahead(0 1, 2, 1) = 24 99",
            "change(0, 2, 95) | ahead(0 1, 2, 1) = 96 99 | change(0, 2, 96) | ahead(0 1, 2, 100) = 96 99");
        e.edge("Terms 2: .. (if it is): never less by others of as much or of less",
            "people(4 4 4) | change(0..2, 1, 0) | change(0 1, 2, 60) | change(2, 2, 0) | go(1)",
            "of(0..2, 2) = 60 60 15");
        e.edge("Terms 2: .. ON a LOT with others there: not alone, not in a boat, not by those ON another LOT",
            "people(4 4 5 5) | change(0, 1, 0) | change(1, 1, 1) | change(1 3, 2, 99) | change(0 2, 2, 0)",
            "go(1) = 0b0011 | of(0..3, 2) = 0 99 0 99");
        e.edge("Terms 2: .. all at once",
            "people(4 4 4) | change(0..2, 1, 0) | change(0, 2, 90) | change(1, 2, 10) | change(2, 2, 86)",
            "go(1) | of(0..2, 2) = 90 30 87");
        e.edge("Terms 2: .. with one that comes in this DAY, not with one that falls in it",
            "people(4 4 5) | change(0, 1, 0) | change(0, 2, 0) | change(2, 1, 0) | change(2, 2, 99) | change(1, 2, 40)",
            "go(1) = 0b011 | of(0..2, 2) = 10 40 79");
    }

    private static void dayAndDraws(Edges e) {
        e.edge("Terms 2: DAY is one more (99999 at most)",
            "days(99999) = 0 | now(0) = 99999 | suns(0 0 0 9 0 0) | mist(0) | fog(0, 0..4) = 50 41 32 23 14",
            "people(0) | change(0, 1, 0) | falls(0) = 2 | bare() = 2");
        e.edge("Terms 2: DRAWS: z is told (1 at first)",
            "count(6) = 1 | fine(1) | count(6) = -1770082073 | sun(0, 0) = 37");
        e.edge("Terms 2: DRAWS: z is an int that wraps around, z >>> 8 is never below 0",
            "person(0) | lot(0..9, 2, 0) | seed(-1) = 1 | fine(1) | count(6) = 288979989 | sun(0, 0) = 33",
            "now(7) = 0b100000000",
            "lot(0..9, 2, 0) | seed(MAX) | fine(1) | count(6) = -1858503659 | sun(1, 0) = 25 | now(7) = 0b1000000",
            "lot(0..9, 2, 0) | seed(MIN) | fine(1) | count(6) = 1406932606 | sun(2, 0) = 15 | now(7) = 0b1",
            "lot(0..9, 2, 0) | seed(0) | fine(1) | count(6) = -740551042 | sun(3, 0) = 7 | now(7) = 0b100000000");
    }
}
