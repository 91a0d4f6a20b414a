/** The edges of the night: who sleeps, what is there, doors, dreamers, their turns. Document ==== 2, promises 11 to 16. */
final class NightEdges extends Checks {
    /** A room that is there in minutes 0 to 299, beside it another one; the door between them is shut. */
    private static final String PAIR = "sleeper 0 300 0;sleeper 0 300 0;door 0 1 0;turns 0 0;";

    static void all() {
        sleeping();
        milkman();
        keptOnes();
        roomsThere();
        doorsTurn();
        lostOnes();
        comers();
        byNumber();
        takingTime();
        endOfAWill();
        turnsWithoutTime();
        loops();
        asIsThen();
        toARoom();
        questions();
        eachQuestion();
        promisedRows();
        nightOfADreamer();
        lostBits();
    }

    // ---- who sleeps, what is there

    private static void sleeping() {
        says("A SLEEPER sleeps in MINUTES F to T less 1");
        StreetDreams x = on("sleeper 5 9 0;sleeper 7 7 0;sleeper 0 300 0;sleeper 299 300 0;sleeper 0 1 0;"
            + "sleeper 0 0 0;sleeper 300 300 0;");
        due("5 to 9", row(m -> x.sleeps(0, m), 3, 10), "00111100");
        due("7 to 7", row(m -> x.sleeps(1, m), 0, 300).indexOf('1'), -1);
        due("0 to 300, at its begin", row(m -> x.sleeps(2, m), 0, 1), "11");
        due("0 to 300, at its end", row(m -> x.sleeps(2, m), 298, 300), "110");
        StreetDreams y = on("sleeper 299 300 0;sleeper 0 1 0;sleeper 0 0 0;sleeper 300 300 0;");
        due("299 to 300", row(m -> y.sleeps(0, m), 297, 300), "0010");
        due("0 to 1", row(m -> y.sleeps(1, m), 0, 2), "100");
        due("0 to 0", y.sleeps(2, 0), false);
        due("300 to 300", row(m -> y.sleeps(3, m), 299, 300), "00");
    }

    private static void milkman() {
        says("not from the one in which the milkman wakes him on");
        StreetDreams x = on("sleeper 0 300 0;sleeper 0 300 0;sleeper 6 8 0;sleeper 7 9 0;sleeper 8 20 0;sleeper 9 30 0;"
            + "sleeper 0 3 0;milk 4;");
        due("0 in 4", row(m -> x.sleeps(0, m), 2, 5), "1100");
        due("1 in 5", row(m -> x.sleeps(1, m), 3, 6), "1100");
        due("2 in 6, his F", row(m -> x.sleeps(2, m), 5, 9), "00000");
        due("3 in 7, his F", row(m -> x.sleeps(3, m), 6, 9), "0000");
        due("4 in 8, his F", row(m -> x.sleeps(4, m), 7, 21).indexOf('1'), -1);
        due("5 in 9", row(m -> x.sleeps(5, m), 8, 30).indexOf('1'), -1);
        due("6 is up by then", row(m -> x.sleeps(6, m), 1, 4), "1100");
        StreetDreams y = on("sleeper 0 300 0;sleeper 5 300 0;milk 5;");
        due("who begins in the minute ahead", row(m -> y.sleeps(1, m), 4, 7), "0100");
        StreetDreams z = on("sleeper 0 300 0;sleeper 0 300 0;milk 299;");
        due("0 in 299", row(m -> z.sleeps(0, m), 297, 300), "1100");
        due("1 in 300", row(m -> z.sleeps(1, m), 297, 300), "1110");
    }

    private static void keptOnes() {
        says("KEPT ones sleep in all");
        StreetDreams x = on("sleeper 5 9 0;sleeper 7 7 0;sleeper 0 300 0;milk 2;");
        due("nobody", x.keep(7), 0);
        due("at F, T, the milkman", row(m -> x.asleep(m) == 7, 0, 20).indexOf('0'), -1);
        due("in the last", x.asleep(300) * 10 + x.asleep(299), 77);
        due("two", x.keep(3), 7);
        due("one is woken in 4", x.asleep(3) * 10 + x.asleep(4), 73);
        x.keep(0);
        due("nobody any more", x.asleep(0) * 10 + x.asleep(300), 40);
    }

    private static void roomsThere() {
        says("A ROOM is THERE while its SLEEPER sleeps (or its twin's).");
        StreetDreams x = on("sleeper 3 5 0;sleeper 0 0 0;sleeper 4 8 0;sleeper 6 6 0;twin 0 3;");
        due("0", row(m -> x.there(0, m), 2, 8), "0110000");
        due("never", row(m -> x.there(1, m), 0, 20).indexOf('1'), -1);
        due("2", row(m -> x.there(2, m), 2, 8), "0011110");
        due("3 by its twin's", row(m -> x.there(3, m), 2, 8), "0110000");
        x.keep(8);
        due("0 by its twin's", row(m -> x.there(0, m), 299, 300), "11");
        due("not 1, not 2", x.rooms(300), 9);
        says("Whether a ROOM is THERE.");
        StreetDreams y = on("sleeper 0 3 0;sleeper 5 7 0;twin 1 0;milk 5;");
        due("the milkman wakes 1 in 6", row(m -> y.there(0, m), 1, 7), "1100100");
    }

    // ---- doors

    private static void doorsTurn() {
        says("DOORS turn by NOISES: those of a MINUTE, as told, turn ahead of all else in it.");
        StreetDreams x = on(PAIR + "noise 6 0;dreamer 0 5;dreamer 0 5;dreamer 0 4;", "to 1;", "call 0;to 1;", "to 1;");
        due("opened in 6 ahead of 0, who goes in 6", path(x, 0, 4, 7), ".011");
        due("shut yet in 5, in which 2 tries", path(x, 2, 4, 7), "0000");
        StreetDreams two = on(PAIR + "noise 6 0;noise 6 0;noise 8 0;noise 8 0;noise 8 0;");
        due("two of a minute, three of a minute", row(m -> two.open(0, m), 5, 9), "00011");
        StreetDreams ends = on(PAIR + "noise 0 0;noise 300 0;");
        due("in the first and in the last", row(m -> ends.open(0, m), 0, 300), times(300, "1") + "0");
        says("In each MINUTE: (a) NOISES as told;");
        StreetDreams gone = on("sleeper 0 6 0;sleeper 0 300 0;door 0 1 0;turns 0 0;noise 6 0;dreamer 0 5;", "to 1;");
        due("opened in the minute in which his room goes", gone.night(0, 0), 6);
        StreetDreams asks = on(PAIR + "noise 6 0;dreamer 0 5;", "if open 0[call 1;];");
        due("asked in 6", asks.night(0, 3), 1);
    }

    // ---- lost, coming

    private static void lostOnes() {
        says("(b) DREAMERS in a ROOM that is not THERE are LOST (they do no more)");
        String street = "sleeper 0 10 0;sleeper 0 300 0;door 0 1 1;dreamer 0 5;";
        StreetDreams calls = on(street, "again 20[call 0;];");
        due("he calls in 6 to 9", calls.night(0, 3), 4);
        due("lost in 10", calls.night(0, 0), 10);
        due("where", path(calls, 0, 9, 11), "0..");
        StreetDreams late = on(street, "wait 4;to 1;");
        due("he would go in 10", late.night(0, 0) * 10 + late.night(0, 1), 100);
        StreetDreams just = on(street, "wait 3;to 1;");
        due("he goes in 9", just.night(0, 0) * 10 + just.night(0, 1), 3001);
        StreetDreams again = on("sleeper 0 10 0;sleeper 11 300 0;twin 0 1;dreamer 0 5;", "wait 20;call 0;");
        due("his room is back in 11, not he", path(again, 0, 9, 13), "0....");
        due("nor does he call", again.night(0, 3), 0);
        StreetDreams stay = on("sleeper 0 10 0;sleeper 10 300 0;twin 0 1;dreamer 0 5;");
        due("without a gap he stays", path(stay, 0, 9, 11), "000");
        due("in the last minute", on("sleeper 0 300 0;dreamer 0 5;").night(0, 0), 300);
        StreetDreams met = on("sleeper 0 6 0;sleeper 0 300 0;door 0 1 1;dreamer 0 4;dreamer 0 6;", "until met[];", "call 0;");
        due("lost ones meet nobody", met.night(0, 4) + met.night(1, 4) + met.night(1, 3), 0);
    }

    private static void comers() {
        says("(c) who comes in this MINUTE: is in his ROOM, if it is THERE; else LOST");
        String street = "sleeper 5 9 0;dreamer 0 4;dreamer 0 5;dreamer 0 8;dreamer 0 9;";
        StreetDreams x = on(street);
        due("ahead of F", path(x, 0, 3, 6) + x.night(0, 0), "....4");
        due("in F", path(x, 1, 4, 9) + x.night(1, 0), ".0000.9");
        due("in T less 1", path(x, 2, 7, 9) + x.night(2, 0), ".0.9");
        due("in T", path(x, 3, 8, 10) + x.night(3, 0), "...9");
        StreetDreams edge = on("sleeper 0 300 0;sleeper 0 0 0;dreamer 0 0;dreamer 1 0;dreamer 0 299;dreamer 0 300;");
        due("in minute 0", edge.where(0, 0), 0);
        due("in minute 0 into none", edge.night(1, 0), 0);
        due("in 299", path(edge, 2, 298, 300), ".0.");
        due("in 300 into none", edge.night(3, 0), 300);
        edge.keep(1);
        due("in 300 into one", path(edge, 3, 299, 300) + edge.night(3, 0), ".0-1");
        StreetDreams milk = on("sleeper 0 300 0;dreamer 0 6;dreamer 0 7;milk 7;");
        due("ahead of the milkman", milk.where(0, 6), 0);
        due("in his minute", milk.night(1, 0) * 10 + milk.night(0, 0), 77);
    }

    private static void byNumber() {
        says("(d) each DREAMER who is in (not who came in it), by number, does his WILL");
        StreetDreams x = on(PAIR + "dreamer 0 5;", "call 0;");
        due("he came in 5, and calls in 6", row(m -> x.open(0, m), 4, 7), "0011");
        StreetDreams first = on(PAIR + "dreamer 0 5;dreamer 0 5;", "call 0;", "to 1;");
        due("0 opens ahead of 1", path(first, 1, 5, 6), "01");
        StreetDreams second = on(PAIR + "dreamer 0 5;dreamer 0 5;", "to 1;", "call 0;");
        due("1 opens behind 0", path(second, 0, 5, 7), "000");
        StreetDreams four = on(PAIR + "dreamer 0 1;dreamer 0 1;dreamer 0 1;dreamer 0 1;", "call 0;", "call 0;", "call 0;", "to 1;");
        due("three turn it ahead of the fourth", four.where(3, 2), 1);
        StreetDreams last = on(PAIR + "dreamer 0 299;dreamer 0 300;", "call 0;", "call 0;");
        last.keep(1);
        due("in 300 who came in 299, not who came in 300", last.night(0, 3) * 10 + last.night(1, 3), 10);
        StreetDreams zero = on(PAIR + "dreamer 0 0;", "call 0;");
        due("who came in 0 calls in 1", row(m -> zero.open(0, m), 0, 1), "01");
    }

    // ---- what takes time

    private static void takingTime() {
        says("again, until, if take no time; to, wait (each MINUTE of it), call take the MINUTE");
        String none = "if met[]else[];until in 0[];again 3[];";
        due("none", on(PAIR + "dreamer 0 5;", none + "call 0;").open(0, 6), true);
        due("none at all", on(PAIR + "dreamer 0 5;", none + "call 0;").open(0, 5), false);
        due("a call", first(PAIR, "call 1;call 0;"), 7);
        due("a wait of 1", first(PAIR, "wait 1;call 0;"), 7);
        due("a wait of 2", first(PAIR, "wait 2;call 0;"), 8);
        due("a wait of 99", first(PAIR, "wait 99;call 0;"), 105);
        due("a to that fails", first(PAIR, "to 1;call 0;"), 7);
        due("a to that does not", first(PAIR + "door 0 1 1;", "to 1;call 0;"), 7);
        due("steps of a block", first(PAIR, "again 3[wait 2;];call 0;"), 12);
        due("until it is so", first(PAIR, "until after 20[wait 1;];call 0;"), 20);
        due("until it is so, by twos", first(PAIR, "until after 21[wait 2;];call 0;"), 22);
    }

    /** The minute in which a dreamer who came in 5 calls the sort that opens door 0. */
    private static int first(String street, String text) {
        StreetDreams x = on(street + "dreamer 0 5;", text);
        for (int m = 0; m <= 300; m++) {
            if (x.open(0, m)) {
                return m;
            }
        }
        return -1;
    }

    private static void endOfAWill() {
        says("a WILL at its end (none, too) does nothing more");
        StreetDreams none = on(PAIR + "dreamer 0 5;");
        due("without a will", path(none, 0, 4, 299) + none.night(0, 0), "." + times(295, "0") + "300");
        due("went, failed, called, stuck", none.night(0, 1) + none.night(0, 2) + none.night(0, 3) + none.night(0, 5), 0);
        StreetDreams one = on(PAIR + "dreamer 0 5;", "call 0;");
        due("called once", one.night(0, 3), 1);
        due("the door stays", row(m -> one.open(0, m), 5, 300), "0" + times(295, "1"));
        StreetDreams blanks = on(PAIR + "dreamer 0 5;", "  ");
        due("a will of no steps", blanks.night(0, 3) + blanks.night(0, 5), 0);
    }

    private static void turnsWithoutTime() {
        says("Of turns without time (an again that is come to, its BLOCK that ends, an until or an if that asks");
        // 21 turns each of the first two, 18 of the third: 60.
        String sixty = "again 20[];again 20[];again 17[];";
        due("60 and a call", turned(sixty + "call 0;"), 10);
        due("one more again, of no times", turned(sixty + "again 0[];call 0;"), 1);
        due("one more until, that is so", turned(sixty + "until in 0[];call 0;"), 1);
        due("one more if", turned(sixty + "if met[];call 0;"), 1);
        due("one more if, with else", turned(sixty + "if met[]else[];call 0;"), 1);
        due("one more end of a block", turned("again 20[];again 20[];again 18[];call 0;"), 1);
        due("59 and an if", turned("again 20[];again 20[];again 16[];if met[];call 0;"), 10);
        due("the end of an if is none", turned("again 20[];again 20[];again 16[];if in 0[];call 0;"), 10);
        due("the end of an else is none", turned("again 20[];again 20[];again 16[];if met[]else[];call 0;"), 10);
        due("nor is it ahead of another turn: 58 and 2", turned("again 20[];again 20[];again 15[];if in 0[]else[];if met[];call 0;"), 10);
        due("58 and 3", turned("again 20[];again 20[];again 15[];if in 0[]else[];if met[];if met[];call 0;"), 1);
        due("the end of an until is none: 1 and 59 in minute 2",
            turned("until after 2[call 0;];again 20[];again 20[];again 16[];call 0;"), 20);
        due("1 and 60 in minute 2", turned("until after 2[call 0;];" + sixty + "call 0;"), 11);
        due("59 and an until that is so", turned("again 20[];again 20[];again 16[];until in 0[];call 0;"), 10);
        due("nested: 1 + 3 * (1 + 18 + 1) are 61", turned("again 3[again 18[];];call 0;"), 1);
        due("nested: 1 + 3 * (1 + 17 + 1) and 2 are 60", turned("again 3[again 17[];];again 1[];call 0;"), 10);
        due("of each if in a block: 1 + 20 * 2 and 19", turned("again 20[if met[];];again 18[];call 0;"), 10);
        due("of each if in a block: 1 + 20 * 2 and 20", turned("again 20[if met[];];again 19[];call 0;"), 1);
        says("the 61st of one MINUTE is not done: he does nothing more for the night");
        due("an until without time", turned("until met[];call 0;"), 1);
        due("an if at the end", turned(sixty + "if met[];"), 1);
        due("60 at the end", turned(sixty), 0);
        due("60 in each of two minutes", turned(sixty + "call 0;" + sixty + "call 0;"), 20);
        due("60 and 61", turned(sixty + "call 0;" + sixty + "again 0[];call 0;"), 11);
        due("the end of a block stands with the next minute: 1 + 59",
            turned("again 1[call 0;];again 20[];again 20[];again 16[];call 0;"), 20);
        due("1 + 60", turned("again 1[call 0;];" + sixty + "call 0;"), 11);
        StreetDreams stuck = on("sleeper 0 300 0;sleeper 0 20 0;door 1 0 1;dreamer 1 5;dreamer 1 9;", "until in 0[];to 0;");
        due("he does nothing more", path(stuck, 0, 5, 21), times(15, "1") + "..");
        due("and is lost with his room", stuck.night(0, 0), 20);
        due("he is in it still for others", stuck.night(1, 4), 11);
        due("the other is not stuck", stuck.night(1, 5), 0);
        StreetDreams later = on(PAIR + "dreamer 0 5;", "until after 50[wait 1;];until met[];call 0;");
        due("stuck in 50", later.night(0, 5) * 10 + later.night(0, 3), 10);
        StreetDreams saved = on("sleeper 0 300 0;dreamer 0 298;dreamer 0 300;", "until met[];call 0;");
        saved.keep(1);
        due("stuck in 299, though met in 300", saved.night(0, 5) * 10 + saved.night(0, 3), 10);
    }

    /** Ten times how often a dreamer of such a will called, and 1 if he does no more by too many turns. */
    private static int turned(String text) {
        StreetDreams x = on("sleeper 0 300 0;dreamer 0 0;", text);
        return 10 * x.night(0, 3) + x.night(0, 5);
    }

    private static void loops() {
        says("\"again\" N BLOCK (0 to 20 times), \"until\" T BLOCK (T is asked first; till it is so)");
        due("0 times", turned("again 0[call 0;];"), 0);
        due("0 times, and on", turned("again 0[call 0;];call 0;"), 10);
        due("once", turned("again 1[call 0;];"), 10);
        due("20 times", turned("again 20[call 0;];"), 200);
        due("20 times 10", turned("again 20[again 10[call 0;];];"), 2000);
        due("a block in a block begins anew", turned("again 3[again 2[call 0;];call 0;];"), 90);
        due("six blocks", turned("again 2[again 2[again 2[again 2[again 2[again 2[call 0;];];];];];];"), 640);
        due("so at first", turned("until in 0[call 0;];"), 0);
        due("so at first, and on", turned("until in 0[call 0;];call 0;"), 10);
        due("so behind ten", turned("until after 11[call 0;];"), 100);
        due("never so", turned("until not in 0[call 0;];"), 2990);
        due("if so", turned("if in 0[call 0;call 0;]else[call 0;];"), 20);
        due("if not so", turned("if not in 0[call 0;call 0;]else[call 0;];"), 10);
        due("if not so, without else", turned("if not in 0[call 0;call 0;];call 0;"), 10);
        due("behind else it goes on", turned("if in 0[]else[call 0;];call 0;"), 10);
    }

    private static void asIsThen() {
        says("All is as it is then (DOORS, those who went ahead in the MINUTE); call turns at once.");
        String met = "if met[call 5;];";
        String two = "sleeper 0 300 0;sleeper 0 300 0;door 0 1 1;turns 0 0;";
        due("who went ahead is met", on(two + "dreamer 0 5;dreamer 1 5;", "to 1;", met).night(1, 3), 1);
        due("who goes behind is not yet", on(two + "dreamer 0 5;dreamer 1 5;", met, "to 0;").night(0, 3), 0);
        due("who went away ahead is not", on(two + "dreamer 0 5;dreamer 0 5;", "to 1;", met).night(1, 3), 0);
        due("who goes away behind still is", on(two + "dreamer 0 5;dreamer 0 5;", met, "to 1;").night(0, 3), 1);
        due("who comes in the minute is", on(two + "dreamer 0 5;dreamer 0 6;", met).night(0, 3), 1);
        due("a call shuts at once", on(two + "dreamer 0 5;dreamer 0 5;", "call 0;", "to 1;").night(1, 2), 1);
        due("a call ahead is seen", on(two + "dreamer 0 5;dreamer 0 5;", "call 0;", "if open 0[call 5;];").night(1, 3), 0);
        due("a call behind is not yet", on(two + "dreamer 0 5;dreamer 0 5;", "if open 0[call 5;];", "call 0;").night(0, 3), 1);
        StreetDreams open = on(two + "dreamer 0 5;", "call 0;");
        due("behind its minute, to the end", row(m -> open.open(0, m), 5, 7), "100");
        StreetDreams none = on(two + "dreamer 0 5;", "call 3;");
        due("a sort that turns none", none.night(0, 3) * 10 + (none.open(0, 300) ? 1 : 0), 11);
    }

    private static void toARoom() {
        says("(through an open DOOR into ROOM R, if both ROOMS are there; else he stays)");
        String street = "sleeper 0 20 0;sleeper 7 20 0;sleeper 0 20 0;door 0 1 1;door 2 0 0;dreamer 0 4;";
        due("not there yet", on(street, "to 1;").night(0, 2), 1);
        due("not there yet: he stays", on(street, "to 1;").where(0, 5), 0);
        due("there in 7", path(on(street, "wait 2;to 1;"), 0, 4, 7), "0001");
        due("not there in 6", path(on(street, "wait 1;to 1;"), 0, 4, 7), "0000");
        due("a shut door", on(street, "to 2;").night(0, 2), 1);
        due("his own room: no door", on(street, "to 0;").night(0, 2), 1);
        due("back", path(on(street, "wait 2;to 1;to 0;"), 0, 6, 9), "0100");
        due("no door at all", on("sleeper 0 9 0;sleeper 0 9 0;twin 0 1;dreamer 0 4;", "to 1;").night(0, 2), 1);
        due("no door from there", on(street + "door 1 2 1;", "to 2;").night(0, 2), 1);
        StreetDreams gone = on("sleeper 0 20 0;sleeper 0 7 0;door 0 1 1;dreamer 0 4;", "wait 2;to 1;");
        due("gone in 7", gone.night(0, 2) * 10 + gone.night(0, 1), 10);
        StreetDreams last = on("sleeper 0 20 0;sleeper 0 8 0;door 0 1 1;dreamer 0 4;", "wait 2;to 1;");
        due("in its last minute, and lost in 8", last.night(0, 1) * 10 + last.night(0, 0), 18);
        StreetDreams end = on(PAIR + "dreamer 0 298;dreamer 0 299;", "call 0;", "to 1;");
        end.keep(3);
        due("in minute 300", path(end, 1, 299, 300), "01");
        due("one of two doors is open", on(PAIR + "door 1 0 1;dreamer 0 4;", "to 1;").where(0, 5), 1);
    }

    private static void questions() {
        says("\"after\" M (it is MINUTE M, 0 to 300, or later), or \"not\" T");
        due("after 0", turned("if after 0[call 0;];"), 10);
        due("it is minute 1", turned("if after 1[call 0;];"), 10);
        due("not yet 2", turned("if after 2[call 0;];"), 0);
        due("not after 2", turned("if not after 2[call 0;];"), 10);
        due("not not after 2", turned("if not not after 2[call 0;];"), 0);
        due("six nots", turned("if not not not not not not after 1[call 0;];"), 10);
        StreetDreams last = on("sleeper 0 300 0;dreamer 0 0;", "until after 300[wait 1;];call 0;");
        due("never 300 for him", last.night(0, 3), 0);
        last.keep(1);
        due("in 300", last.night(0, 3), 1);
        StreetDreams there = on("sleeper 0 300 0;sleeper 4 6 0;dreamer 0 0;",
            "until there 1[wait 1;];call 0;until not there 1[wait 1;];call 1;");
        due("there in 4 and 5, not in 6", there.night(0, 3), 2);
        StreetDreams doors = on(PAIR + "noise 4 0;noise 6 0;dreamer 0 0;",
            "until open 0[wait 1;];to 1;until not open 0[wait 1;];to 0;");
        due("open in 4, shut in 6", path(doors, 0, 3, 7), "01111");
        due("went, failed", doors.night(0, 1) * 10 + doors.night(0, 2), 11);
    }

    /** Each question in minute 1, plain, turned, and turned twice; and in a minute in which another dreamer has come. */
    private static void eachQuestion() {
        says("or \"not\" T");
        String street = "sleeper 0 300 0;sleeper 1 300 0;sleeper 2 300 0;" + times(9, "door 1 2 0;") + "door 1 2 1;"
            + "dreamer 0 0;";
        String[] so = {"in 0", "there 0", "there 1", "open 9", "after 0", "after 1"};
        String[] notSo = {"in 1", "in 2", "there 2", "open 0", "open 8", "met", "after 2", "after 300"};
        for (String t : so) {
            asked(street, t, 1);
        }
        for (String t : notSo) {
            asked(street, t, 0);
        }
        asked(street + "dreamer 0 1;", "met", 1);
        asked(street + "dreamer 1 1;", "met", 0);
        asked("sleeper 0 0 0;sleeper 0 300 0;dreamer 1 0;", "in 1", 1);
        asked("sleeper 0 0 0;sleeper 0 300 0;dreamer 1 0;", "in 0", 0);
        asked("sleeper 0 0 0;sleeper 0 300 0;dreamer 1 0;", "there 0", 0);
    }

    private static void asked(String street, String t, int so) {
        due("if " + t, on(street, "if " + t + "[call 0;];").night(0, 3), so);
        due("if not " + t, on(street, "if not " + t + "[call 0;];").night(0, 3), 1 - so);
        due("if not not " + t, on(street, "if not not " + t + "[call 0;];").night(0, 3), so);
        due("else of " + t, on(street, "if " + t + "[]else[call 0;];").night(0, 3), 1 - so);
    }

    // ---- promises 11 to 16

    private static void promisedRows() {
        says("Whether a DOOR is open behind a MINUTE of the night (by NOISES, and calls of WILLS)");
        StreetDreams x = on(PAIR + "noise 8 0;noise 11 0;dreamer 0 5;", "call 0;");
        due("called in 6, noises in 8 and 11", row(m -> x.open(0, m), 5, 12), "01100011");
        StreetDreams both = on(PAIR + "noise 6 0;dreamer 0 5;", "call 0;");
        due("both in 6", row(m -> both.open(0, m), 5, 7), "000");
        says("In which ROOM a DREAMER is behind a MINUTE of the night; NONE: he has not come, or is LOST.");
        StreetDreams y = on("sleeper 0 9 0;sleeper 0 20 0;door 0 1 1;dreamer 0 3;dreamer 1 0;", "wait 1;to 1;");
        due("not come, in, gone on, lost", path(y, 0, 0, 20), "...00" + times(15, "1") + ".");
        due("in 0", path(y, 1, 0, 0), "1");
        due("in the last", y.where(0, 300), -1);
    }

    private static void nightOfADreamer() {
        says("Of a DREAMER's night: 0 the MINUTE in which he is LOST (NONE), 1 how often he went through a DOOR, 2 how often a \"to\" failed, "
            + "3 how often he called, 4 in how many MINUTES (behind them) another one was in his ROOM, "
            + "5 1 he does no more by too many turns, 0 not");
        StreetDreams x = on("sleeper 0 300 0;sleeper 0 300 0;door 0 1 1;dreamer 0 0;dreamer 1 3;",
            "to 1;to 0;to 0;to 1;call 5;call 0;until met[];until not met[];");
        x.keep(3);
        due("never lost", x.night(0, 0), -1);
        due("went", x.night(0, 1), 3);
        due("failed", x.night(0, 2), 1);
        due("called", x.night(0, 3), 2);
        due("from 4 to 300 with the other", x.night(0, 4), 297);
        due("so the other", x.night(1, 4), 297);
        due("too many turns", x.night(0, 5) * 10 + x.night(1, 5), 10);
        due("lost in 0", on("sleeper 0 0 0;dreamer 0 0;").night(0, 0), 0);
        due("lost in 300", on("sleeper 0 0 0;dreamer 0 300;").night(0, 0), 300);
        StreetDreams one = on("sleeper 0 300 0;dreamer 0 0;");
        due("alone", one.night(0, 4), 0);
        StreetDreams three = on("sleeper 0 5 0;dreamer 0 0;dreamer 0 0;dreamer 0 4;");
        due("two others count once", three.night(0, 4) * 10 + three.night(2, 4), 51);
        StreetDreams all = on("sleeper 0 300 0;dreamer 0 0;dreamer 0 0;");
        all.keep(1);
        due("in all 301", all.night(0, 4), 301);
        StreetDreams passing = on("sleeper 0 300 0;sleeper 0 300 0;door 0 1 1;dreamer 0 0;dreamer 1 0;", "to 1;", "to 0;");
        due("who pass one another are in no minute together", passing.night(0, 4), 0);
    }

    private static void lostBits() {
        says("LOST in the night, as bits.");
        StreetDreams x = on("sleeper 0 9 0;sleeper 0 0 0;dreamer 1 0;dreamer 0 0;dreamer 0 300;dreamer 0 8;");
        due("all four", x.lost(), 15);
        x.keep(2);
        due("not the first", x.lost(), 14);
        x.keep(1);
        due("the first alone", x.lost(), 1);
        x.keep(3);
        due("none", x.lost(), 0);
        due("no dreamers", on("sleeper 0 9 0;").lost(), 0);
    }
}
