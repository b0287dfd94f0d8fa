/** Terms 3 and promises 29 to 31 at their edges. */
final class EdgesOfTexts {
    private EdgesOfTexts() {
    }

    static void all(Edges e) {
        feed(e);
        wipe(e);
        tokens(e);
        people(e);
        lots(e);
        weather(e);
        endsTooEarly(e);
        cantStandThere(e);
        ninth(e);
        full(e);
        text(e);
    }

    private static void feed(Edges e) {
        e.edge("29: n is 1 to 4",
            "feed(0, 0 -1 5 MIN MAX) = BEYOND | count(5) = 0 | feed(0, 1) = 1 | feed(0, 4) = 5 | feed(0, 2 3) = 7 10");
        // "mist" and "10", "0" and "7", with bytes above them that aren't taken.
        e.edge("29: the n lowest bytes of a number, the highest of these first",
            "feed(0x6d697374, 4) = 4 | feed(0x7f7f3130, 2) = 6 | text() = 1 | mist(0) = 10",
            "feed(0x6d6d6973, 3) = 3 | feed(0x74746974, 1) = 4 | feed(0x20203037, 3) = 7 | text() = 1 | mist(0) = 7");
        e.edge("29: .. a byte of 128 or more, of a number below 0",
            "feed(-1, 4) = 4 | text() = FAULT@0 | feed(0x6d697374, 4) = 4 | feed(0x8020b1ff, 2) = 6",
            "text() = FAULT@4");
        e.edge("29: FULL: THE TAPE has at most 120",
            "type(" + " ".repeat(116) + ") = 116 | feed(0, 4) = 120 | feed(0, 1..4) = FULL | count(5) = 120");
        e.edge("29: .. by one, and then none of them comes",
            "type(" + " ".repeat(117) + ") = 117 | feed(0, 4) = FULL | count(5) = 117 | feed(0, 3) = 120");
        e.edge("29: .. there is room for one, two, three",
            "type(" + " ".repeat(117) + ") = 117 | feed(0, 1) = 118 | feed(0, 3) = FULL | feed(0, 1) = 119",
            "feed(0, 2) = FULL",
            "feed(0, 1) = 120 | feed(0, 1) = FULL");
        e.edge("29: BEYOND is asked before FULL",
            "type(" + " ".repeat(120) + ") = 120 | feed(0, 0 5 -1 MIN MAX) = BEYOND | feed(0, 1) = FULL");
    }

    private static void wipe(Edges e) {
        e.edge("30: THE TAPE is empty: it was", "wipe() = 0 | wipe() = 0");
        e.edge("30: .. it had one, it was full",
            "type(x) = 1 | wipe() = 1 | count(5) = 0 | type(" + " ".repeat(120) + ") = 120 | wipe() = 120",
            "wipe() = 0 | feed(0, 4) = 4");
        e.edge("30: .. what it had is gone", "type(mist ) | wipe() = 5 | read(7) = FAULT@0 | mist(5) = 5");
    }

    private static void tokens(Edges e) {
        e.edge("Terms 3: WORDS are of letters a to z, as long as can be",
            "read(mists 4) = FAULT@0 | read(mis 4) = FAULT@0 | read(mista 4) = FAULT@0 | read(mistz 4) = FAULT@0",
            "read(amist 4) = FAULT@0",
            "read(mist`4) = FAULT@4 | read(mist{4) = FAULT@4 | read(Mist 4) = FAULT@0 | read(misT 4) = FAULT@0",
            "read(personon 4) = FAULT@0");
        e.edge("Terms 3: .. another WORD: by its first letter, by its last one",
            "read(qist 4) = FAULT@0 | read(misq 4) = FAULT@0 | read(qun 1 2) = FAULT@0 | read(suq 1 2) = FAULT@0",
            "read(qot 1) = FAULT@0 | read(loq 1) = FAULT@0 | read(qerson) = FAULT@0 | read(persoq) = FAULT@0",
            "read(qupil) = FAULT@0 | read(pupiq) = FAULT@0 | read(member qn 1) = FAULT@7 | read(member oq 1) = FAULT@7",
            "read(lot 1 qog 2) = FAULT@6 | read(lot 1 foq 2) = FAULT@6 | read(lot 1 qent 2) = FAULT@6 | count(1) = 0");
        e.edge("Terms 3: NUMBERS are of digits, as long as can be",
            "read(mist/4) = FAULT@4 | read(mist:4) = FAULT@4 | read(mist 4:) = FAULT@6 | read(mist 4/) = FAULT@6",
            "read(mist 400) = FAULT@5",
            "read(mist 4 0) = FAULT@7 | read(mist 09) = 1 | mist(5) = 9 | read(mist 0) = 1 | mist(5) = 0");
        e.edge("Terms 3: NUMBERS are 9999 at most",
            "read(person purse 9999) = 1 | of(0, 3) = 9999 | read(person purse 10000) = FAULT@13 | count(1) = 1",
            "read(person purse 0000000000009999) = 1 | of(1, 3) = 9999 | read(person purse 09999) = 1",
            "of(2, 3) = 9999");
        e.edge("Terms 3: .. however many digits there are",
            "read(mist 4294967296) = FAULT@5 | read(mist 4294967301) = FAULT@5 | read(mist 2147483648) = FAULT@5",
            "read(mist 99999999999999999999999999999999999999999999) = FAULT@5",
            "read(mist 18446744073709551617) = FAULT@5",
            "read(mist 00000000000000000000000000000000000000000007) = 1 | mist(5) = 7");
        e.edge("Terms 3: blanks may stand between",
            "read(mist7) = 1 | mist(5) = 7 | read(mist 8;mist 9) = 2 | mist(5) = 9",
            "read(mist    8 ;  mist  6) = 2 | mist(5) = 6",
            "read(lot3fog9rent2) = 1 | lotOf(3, 0 1) = 9 2 | read(person on4believes7purse8) = 1",
            "of(0, 1 2 3) = 4 7 8",
            "read(sun1 2) = 1 | sun(1, 5) = 2 | read(sun12) = FAULT@3");
        e.edge("Terms 3: .. and at both ends", "read(  mist 8) = 1 | mist(5) = 8 | read(mist 9   ) = 1 | mist(5) = 9");
        e.edge("Terms 3: .. a blank ends a TOKEN",
            "read(mi st 8) = FAULT@0 | read(mist 1 2) = FAULT@7 | read(person be lieves 3) = FAULT@7");
        e.edge("Terms 3: a byte that begins no TOKEN",
            "read(mist 8\t) = FAULT@6 | read(\tmist 8) = FAULT@0 | read(mist\n8) = FAULT@4",
            "read(mist 8\0) = FAULT@6 | read(mist -8) = FAULT@5",
            "read(mist 8,mist 9) = FAULT@6 | read(mist 8" + (char) 200 + ") = FAULT@6",
            "read(" + (char) 255 + ") = FAULT@0",
            "read(mist 8" + (char) 160 + ") = FAULT@6 | read(mist 8.) = FAULT@6");
    }

    private static void people(Edges e) {
        e.edge("Terms 3: an ITEM of each KIND: a new one, with nothing more told",
            "read(person) = 1 | read(cottager) = 1 | read(surveyor) = 1 | read(mayor) = 1 | read(member) = 1",
            "read(doubter) = 1",
            "read(pupil) = 1 | of(0..6, 0) = 0..6 | of(0..6, 1) = -1 | of(0..6, 2 3) = 50 | of(0..6, 4) = 0");
        e.edge("Terms 3: on and a NUMBER (a LOT)",
            "read(pupil on 0) = 1 | read(pupil on 9) = 1 | read(pupil on 10) = FAULT@9 | of(0..1, 1) = 0 9",
            "count(1) = 2");
        e.edge("Terms 3: believes and a NUMBER (0 to 99)",
            "read(pupil believes 0) = 1 | read(pupil believes 99) = 1 | read(pupil believes 100) = FAULT@15",
            "of(0..1, 2) = 0 99 | count(1) = 2");
        e.edge("Terms 3: purse and a NUMBER (0 to 9999)",
            "read(pupil purse 0) = 1 | read(pupil purse 9999) = 1 | read(pupil purse 10000) = FAULT@12",
            "of(0..1, 3) = 0 9999 | count(1) = 2");
        e.edge("Terms 3: perhaps one, perhaps the other, in this order alone",
            "read(mayor on 1 purse 3) = 1 | of(0, 1 2 3) = 1 50 3 | read(mayor believes 2 purse 3) = 1",
            "of(1, 1 2 3) = -1 2 3",
            "read(mayor on 1 believes 2) = 1 | of(2, 1 2 3) = 1 2 50 | read(mayor believes 1 on 2) = FAULT@17",
            "read(mayor purse 1 on 2) = FAULT@14 | read(mayor purse 1 believes 2) = FAULT@14 | count(1) = 3");
        e.edge("Terms 3: .. once",
            "read(mayor on 1 on 2) = FAULT@11 | read(mayor believes 1 believes 2) = FAULT@17",
            "read(mayor purse 1 purse 2) = FAULT@14",
            "count(1) = 0");
    }

    private static void lots(Edges e) {
        e.edge("Terms 3: lot and a NUMBER (a LOT), with nothing more told",
            "read(lot 0) = 1 | read(lot 9) = 1 | read(lot 10) = FAULT@4 | read(lot 9999) = FAULT@4 | now(1) = 500");
        e.edge("Terms 3: fog and a NUMBER (0 to 99)",
            "read(lot 0 fog 0) = 1 | read(lot 9 fog 99) = 1 | read(lot 5 fog 100) = FAULT@10",
            "lotOf(0 5 9, 0) = 0 50 99");
        e.edge("Terms 3: rent and a NUMBER (0 to 20)",
            "read(lot 0 rent 20) = 1 | read(lot 9 rent 20) = 1 | read(lot 9 rent 0) = 1",
            "read(lot 5 rent 21) = FAULT@11",
            "lotOf(0 5 9, 1) = 20 0 0");
        e.edge("Terms 3: owner and a NUMBER (one who is there already): of nobody none",
            "read(lot 0 owner 0) = FAULT@12 | read(lot 0 owner 0;person) = FAULT@12 | lotOf(0, 2) = -1 | count(1) = 0");
        e.edge("Terms 3: .. one who came by an earlier ITEM",
            "read(person;lot 0 owner 0;lot 1 owner 1;person) = FAULT@33 | count(1) = 0",
            "read(person;lot 0 owner 0;person;lot 1 owner 1) = 4",
            "lotOf(0..1, 2) = 0 1 | read(lot 2 owner 2) = FAULT@12");
        e.edge("Terms 3: .. of eight",
            "people(0 0 0 0 0 0 0 0) | read(lot 9 owner 7) = 1 | read(lot 9 owner 8) = FAULT@12 | lotOf(9, 2) = 7");
        e.edge("Terms 3: perhaps one, perhaps the other, in this order alone, of a LOT",
            "person(0) | read(lot 1 fog 2 owner 0) = 1 | lotOf(1, 0 1 2) = 2 0 0 | read(lot 2 rent 3 owner 0) = 1",
            "lotOf(2, 0 1 2) = 50 3 0",
            "read(lot 3 fog 4 rent 5) = 1 | lotOf(3, 0 1 2) = 4 5 -1 | read(lot 4 rent 1 fog 2) = FAULT@13",
            "read(lot 4 owner 0 rent 2) = FAULT@14 | read(lot 4 owner 0 fog 2) = FAULT@14 | lotOf(4, 0 1 2) = 50 0 -1");
        e.edge("Terms 3: .. once, of a LOT",
            "person(0) | read(lot 4 fog 1 fog 2) = FAULT@12 | read(lot 4 rent 1 rent 2) = FAULT@13",
            "read(lot 4 owner 0 owner 0) = FAULT@14",
            "lotOf(4, 0 1 2) = 50 0 -1");
    }

    private static void weather(Edges e) {
        e.edge("Terms 3: sun, two NUMBERS (0 to 5, 0 to 40)",
            "read(sun 0 0) = 1 | read(sun 5 40) = 1 | read(sun 6 1) = FAULT@4 | read(sun 1 41) = FAULT@6",
            "sun(0..5, 5) = 0 5 5 5 5 40",
            "read(sun 6 41) = FAULT@4");
        e.edge("Terms 3: mist, a NUMBER (0 to 40)",
            "read(mist 40) = 1 | read(mist 41) = FAULT@5 | mist(5) = 40 | read(mist 0) = 1 | mist(5) = 0");
    }

    private static void endsTooEarly(Edges e) {
        e.edge("Terms 3: FAULT: how many bytes there are if it ends too early: there are none",
            "text() = FAULT@0 | read( ) = FAULT@1 | read(   ) = FAULT@3");
        e.edge("Terms 3: .. behind a WORD that wants a NUMBER",
            "read(lot) = FAULT@3 | read(sun) = FAULT@3 | read(sun 1) = FAULT@5 | read(mist) = FAULT@4",
            "read(mist  ) = FAULT@6",
            "read(person on) = FAULT@9 | read(person believes) = FAULT@15 | read(person purse) = FAULT@12",
            "read(person purse ) = FAULT@13",
            "read(lot 1 fog) = FAULT@9 | read(lot 1 rent) = FAULT@10 | read(lot 1 owner) = FAULT@11 | count(1) = 0");
        e.edge("Terms 3: .. behind a SIGN ;",
            "read(mist 7;) = FAULT@7 | read(mist 7; ) = FAULT@8 | read(person;) = FAULT@7 | read(lot 1 ; ) = FAULT@8",
            "mist(5) = 5 | count(1) = 0");
    }

    private static void cantStandThere(Edges e) {
        e.edge("Terms 3: FAULT: the place of the first TOKEN that can't stand there: no ITEM begins so",
            "read(;) = FAULT@0 | read(7) = FAULT@0 | read(on 3) = FAULT@0 | read(fog 3) = FAULT@0",
            "read(cow) = FAULT@0 | read( ;mist 7) = FAULT@1",
            "read(mist 7;;mist 8) = FAULT@7 | read(mist 7; 8) = FAULT@8 | read(mist 7;owner) = FAULT@7 | mist(5) = 5");
        e.edge("Terms 3: .. no NUMBER where one is wanted",
            "read(mist mist) = FAULT@5 | read(mist ;) = FAULT@5 | read(mist #) = FAULT@5",
            "read(lot fog 3) = FAULT@4 | read(sun ; 1) = FAULT@4",
            "read(sun 1 x) = FAULT@6 | read(sun 1;) = FAULT@5 | read(person on on) = FAULT@10",
            "read(lot 1 owner person) = FAULT@12");
        e.edge("Terms 3: .. no ; between ITEMS",
            "read(mist 7 mist 8) = FAULT@7 | read(person person) = FAULT@7 | read(lot 1 lot 2) = FAULT@6",
            "read(sun 1 2 3) = FAULT@8",
            "read(mist 7 8) = FAULT@7 | read(person 3) = FAULT@7 | read(person fog 3) = FAULT@7",
            "read(lot 1 believes 3) = FAULT@6");
        e.edge("Terms 3: .. the first of several faults",
            "read(mist 41;cow) = FAULT@5 | read(cow;mist 41) = FAULT@0 | read(person on 10 believes 100) = FAULT@10",
            "read(lot 10 fog 100) = FAULT@4 | read(lot 1 fog 100 rent 21) = FAULT@10 | read(mist 41) = FAULT@5");
    }

    private static void ninth(Edges e) {
        e.edge("Terms 3: FAULT: the WORD of a 9th one: its own",
            "people(0 0 0 0 0 0 0) | read(member on 3; doubter on 77) = FAULT@13 | count(1) = 7",
            "read(member on 3;lot 3 owner 7) = 2 | count(1) = 8",
            "read(person) = FAULT@0 | read( person) = FAULT@1 | read(mist 7;pupil) = FAULT@7 | mist(5) = 5");
        e.edge("Terms 3: .. eight at once, and nine",
            "read(pupil;pupil;pupil;pupil;pupil;pupil;pupil;pupil;pupil) = FAULT@48 | count(1) = 0",
            "read(pupil;pupil;pupil;pupil;pupil;pupil;pupil;pupil) = 8 | count(1) = 8");
        e.edge("Terms 3: .. of each KIND",
            "people(0 0 0 0 0 0 0 0) | read(person) = FAULT@0 | read(cottager) = FAULT@0",
            "read(surveyor) = FAULT@0 | read(mayor) = FAULT@0",
            "read(member) = FAULT@0 | read(doubter) = FAULT@0 | read(pupil) = FAULT@0");
        e.edge("Terms 3: .. another WORD before it counts first",
            "people(0 0 0 0 0 0 0 0) | read(cow;person) = FAULT@0 | read(lot 10;person) = FAULT@4");
    }

    private static void full(Edges e) {
        e.edge("Terms 3: THE TAPE has at most 120 bytes: as many ITEMS as there is room for",
            "read(" + "lot0;".repeat(23) + "lot00) = 24 | read(" + "lot0;".repeat(24) + ") = FAULT@120",
            "read(" + "lot0;".repeat(23) + "lot0#) = FAULT@119");
        e.edge("Terms 3: .. one long WORD, one long NUMBER, one ITEM at its end",
            "read(" + "x".repeat(120) + ") = FAULT@0 | read(mist" + "0".repeat(115) + "9) = 1 | mist(5) = 9",
            "read(mist" + "9".repeat(116) + ") = FAULT@4",
            "read(" + " ".repeat(114) + "mist 8) = 1 | mist(5) = 8 | read(" + " ".repeat(120) + ") = FAULT@120",
            "read(" + " ".repeat(116) + "mist) = FAULT@120");
    }

    private static void text(Edges e) {
        e.edge("31: how many ITEMS: one, and THE TAPE is empty then",
            "read(mist 7) = 1 | count(5) = 0 | text() = FAULT@0 | mist(5) = 7");
        e.edge("31: all that it tells is so, item by item: the later one counts",
            "read(mist 7;mist 8;sun 0 1;sun 0 2;lot 1 fog 3;lot 1 fog 4) = 6 | mist(5) = 8 | sun(0, 5) = 2",
            "lotOf(1, 0) = 4",
            "read(lot 1;lot 1 rent 6) = 2 | lotOf(1, 0 1) = 4 6");
        e.edge("31: with a FAULT nothing changes but that THE TAPE is empty",
            "read(person on 3;lot 3 fog 9 rent 9 owner 0;sun 0 9;mist 9;cow) = FAULT@54 | count(1 5) = 0",
            "lotOf(3, 0..4) = 50 0 -1 0 0",
            "sun(0, 5) = 5 | mist(5) = 5 | read(mist 7) = 1 | mist(5) = 7");
        e.edge("31: .. no finding: all that status() tells is 0",
            "text() = FAULT@0 | read(cow) = FAULT@0 | read(" + "lot0;".repeat(24) + ") = FAULT@120",
            "status(-1 0 1 2 3 4 5 6) = 0");
        e.edge("31: .. one that is kept stays",
            "person(3) | image() = 1 | read(person;cow) = FAULT@7 | undo() = 0 | count(1) = 1");
        e.edge("31: it tells only what it names",
            "person(3) | lot(4, 1, 7) | lot(4, 2, 0) | change(0, 3, 9) | hold(2, 0) | seed(9) | go(2)",
            "read(lot 4 fog 9) = 1",
            "lotOf(4, 0 1 2) = 9 7 0 | of(0, 3) = 9 | as(2, 3) = 0 | count(0 6 7) = 2 9 1");
    }
}
