/** The boundaries of PATHS and of the tape that they are read from: promises 2 to 5. */
final class PathBoundaries extends Boundaries {
    private PathBoundaries() {
    }

    static void tests() {
        lengths();
        tokens();
        numbers();
        brackets();
        whichFault();
        whereFault();
        running();
        feeding();
        ending();
        going();
        kinds();
    }

    private static String blanks(int n) {
        return " ".repeat(n);
    }

    private static void lengths() {
        test(TERMS, "A PATH is a text of at most 200 bytes", x -> {
            for (int length : new int[] {198, 199, 200}) {
                duePath("l" + blanks(length - 2) + "r", 2, "lr");
            }
            for (int length : new int[] {201, 202, 219, 220, 221, 239, 240}) {
                dueFault("l" + blanks(length - 2) + "r", 200, 1);
            }
        });
        test(TERMS, "200, if there are more: nothing is read", x -> {
            dueFault("x" + blanks(200), 200, 1);
            dueFault("l0" + blanks(199), 200, 1);
            dueFault("[[[[" + blanks(197), 200, 1);
            dueFault("h".repeat(201), 200, 1);
            dueFault("h".repeat(200) + "x", 200, 1);
            // with 200 bytes all that is read
            dueFault("x" + blanks(199), 0, 1);
            dueFault("l0" + blanks(198), 1, 2);
            dueFault("[[[[" + blanks(196), 3, 3);
            dueFault(blanks(199) + "x", 199, 1);
        });
    }

    private static void tokens() {
        test(TERMS, "with blanks (32) between TOKENS or not", x -> {
            duePath("l2r[u]2", 5, "l");
            duePath(" l 2 r [ u ] 2 ", 5, "l");
            duePath("   l   2   r   [   u   ]   2   ", 5, "l");
            for (int sign : new int[] {0, 9, 10, 13, 31, 33, 160, 255}) {
                dueFault("l" + (char) sign + "r", 1, 1);
            }
            // a blank within a NUMBER makes two of it
            duePath("l12", 12, "l12");
            dueFault("l1 2", 3, 1);
        });
        test(TERMS, "or 'h' (home: 1 by 1)", x -> {
            duePath("l2rh", 4, "");
            duePath("h", 1, "");
            duePath("hhr", 3, "r");
        });
        test(TERMS, "each (but h) with a NUMBER behind it", x -> {
            duePath("l2", 2, "l2");
            duePath("r2", 2, "r2");
            duePath("l3u2", 5, "l");
            dueFault("h2", 1, 1);
            dueFault("h 1", 2, 1);
            dueFault("lh3", 2, 1);
            dueFault("l2h3", 3, 1);
            dueFault("2", 0, 1);
            dueFault("l2 3", 3, 1);
            dueFault("[2]", 1, 1);
            dueFault("l[2]", 2, 1);
            // one that was the end of the PATH ahead is not behind this one's
            due("path of l", pathOf(x, "l"), 1);
            due("path of 2", pathOf(x, "2"), -1000);
        });
        test(TERMS, "so often, or without, once", x -> {
            duePath("l", 1, "l");
            duePath("l1", 1, "l");
            duePath("l2", 2, "l2");
            duePath("rr", 2, "r2");
            duePath("l4u", 5, "l3");
            duePath("l4u1", 5, "l3");
        });
    }

    private static void numbers() {
        test(TERMS, "(1 or 2 digits, 1 to 99)", x -> {
            dueFault("l0", 1, 2);
            dueFault("l00", 1, 2);
            duePath("l1", 1, "l");
            duePath("l01", 1, "l");
            duePath("l9", 9, "l9");
            duePath("l09", 9, "l9");
            duePath("l10", 10, "l10");
            duePath("l20", 20, "l20");
            duePath("[h]98", 98, "");
            duePath("[h]99", 99, "");
            dueFault("[h]100", 3, 2);
            dueFault("l100", 1, 2);
        });
        test(TERMS, "2 a NUMBER that is not as told (at its first digit; of three digits, too)", x -> {
            dueFault("u0", 1, 2);
            dueFault("r 0", 2, 2);
            dueFault("[]0", 2, 2);
            dueFault("l000", 1, 2);
            dueFault("l001", 1, 2);
            dueFault("l010", 1, 2);
            dueFault("l099", 1, 2);
            dueFault("l  100", 3, 2);
            dueFault("l101r", 1, 2);
            dueFault("l999", 1, 2);
            dueFault("l1000", 1, 2);
            dueFault("l4294967297", 1, 2);
            dueFault("l18446744073709551617", 1, 2);
            dueFault("l" + "1".repeat(199), 1, 2);
            dueFault(blanks(198) + "l0", 199, 2);
            // two digits are as told, behind them another TOKEN
            duePath("l10l", 11, "l11");
        });
    }

    private static void brackets() {
        test(TERMS, "'[' { STEP } ']' and a NUMBER likewise", x -> {
            duePath("[]", 0, "");
            duePath("[]1", 0, "");
            duePath("[]99l", 1, "l");
            duePath("l[]9r", 2, "lr");
            duePath("[l]3[]9r", 4, "l3r");
            duePath("[l]", 1, "l");
            duePath("[l]1", 1, "l");
            duePath("[l]2", 2, "l2");
            duePath("[lr]10", 5, "lrlrl");
            duePath("[hh]99", 198, "");
            dueFault("[l]0", 3, 2);
            dueFault("[l]00", 3, 2);
            dueFault("[l]100", 3, 2);
            dueFault("[l]2 2", 5, 1);
            // a bracket within another is gone through as often each time
            duePath("[[ru]3l]3", 21, "l3");
            // and as often after a PATH that ended within one
            due("path of [l]99", pathOf(x, "[l]99"), 20);
            due("path of [u]19", pathOf(x, "[u]19"), 19);
        });
        test(TERMS, "(so often; 3 brackets at most are open at a time)", x -> {
            duePath("[l]2", 2, "l2");
            duePath("[[l]2]2", 4, "l4");
            duePath("[[[l]2]2]2", 8, "l8");
            dueFault("[[[[l]2]2]2]2", 3, 3);
            // one that is closed is not open
            duePath("[[[][][l]]]", 1, "l");
            duePath("[[[]]][[[]]][[[l]]]", 1, "l");
            duePath("[][][][][l]", 1, "l");
            dueFault("[[[]][[", 7, 1);
            dueFault("[[[]][[[", 7, 3);
        });
        test(TERMS, "3 a fourth bracket (at it)", x -> {
            duePath("[[[]]]", 0, "");
            dueFault("[[[[", 3, 3);
            dueFault("[[[[]]]]", 3, 3);
            dueFault("l[r[u[h[", 7, 3);
            dueFault("[[[ [", 4, 3);
            dueFault("[[[[[[", 3, 3);
            dueFault(blanks(196) + "[[[[", 199, 3);
            // the third one is none yet
            dueFault("[[[", 3, 1);
        });
    }

    private static void whichFault() {
        test(TERMS, "FAULTS, the first along the text", x -> {
            dueFault("xl0[[[[", 0, 1);
            dueFault("l0x[[[[", 1, 2);
            dueFault("[[[[l0x", 3, 3);
            dueFault("lxl0", 1, 1);
            dueFault("l0lx", 1, 2);
            dueFault("[l0", 2, 2);
            dueFault("[lx", 2, 1);
            dueFault("]]", 0, 1);
        });
        test(TERMS, "of one place the least", x -> {
            // a NUMBER that is not as told, where none can stand
            dueFault("0", 0, 1);
            dueFault("100", 0, 1);
            dueFault("h0", 1, 1);
            dueFault("h100", 1, 1);
            dueFault("l5 0", 3, 1);
            dueFault("l5 100", 3, 1);
            dueFault("[0]", 1, 1);
            // and where one can
            dueFault("l 0", 2, 2);
            dueFault("[] 100", 3, 2);
        });
    }

    private static void whereFault() {
        test(TERMS, "1 what can't stand there (at its byte", x -> {
            for (int sign = 0; sign < 256; sign++) {
                dueFirstByte((char) sign);
                dueByteBehindL((char) sign);
            }
            dueFault("lrx", 2, 1);
            dueFault("l]", 1, 1);
            dueFault("[]]", 2, 1);
            dueFault(blanks(199) + "]", 199, 1);
        });
        test(TERMS, "the end: how many bytes there are", x -> {
            dueFault("[", 1, 1);
            dueFault("[l", 2, 1);
            dueFault("[l   ", 5, 1);
            dueFault("[[l]", 4, 1);
            dueFault("[[l]2", 5, 1);
            dueFault("[" + blanks(198), 199, 1);
            dueFault("[" + blanks(199), 200, 1);
            dueFault(blanks(199) + "[", 200, 1);
            // all closed there: none
            duePath("[" + blanks(198) + "]", 0, "");
            duePath("[[l]]", 1, "l");
        });
    }

    private static void dueFirstByte(char sign) {
        if (" lruh".indexOf(sign) < 0) {
            // the end comes too early for a bracket
            dueFault("" + sign, sign == '[' ? 1 : 0, 1);
        } else {
            MarkovTree x = at(2, 3);
            due("path of the byte " + (int) sign, pathOf(x, "" + sign), sign == ' ' ? 0 : 1);
            due("fault of the byte " + (int) sign, x.fault(), 0);
        }
    }

    private static void dueByteBehindL(char sign) {
        if (" lruh123456789".indexOf(sign) < 0) {
            dueFault("l" + sign, sign == '[' ? 2 : 1, sign == '0' ? 2 : 1);
        } else {
            MarkovTree x = at(1, 2);
            int often = sign >= '1' && sign <= '9' ? sign - '0' : sign == ' ' ? 1 : 2;
            due("path of l and the byte " + (int) sign, pathOf(x, "l" + sign), often);
            due("fault of l and the byte " + (int) sign, x.fault(), 0);
        }
    }

    private static void running() {
        test(TERMS, "All STEPS are done one by one till one can't be (LEFT, RIGHT beyond 22, UP from 1 by 1)", x -> {
            duePath("l20", 20, "l20");
            duePath("l21", 20, "l20");
            duePath("l20l", 20, "l20");
            duePath("r20", 20, "r20");
            duePath("r21", 20, "r20");
            duePath("l3u3", 6, "");
            duePath("l3u4", 6, "");
            // those behind it are not done, in whatever bracket
            duePath("ulr", 0, "");
            duePath("l3u4r", 6, "");
            duePath("l20lh", 20, "l20");
            duePath("[l]99h", 20, "l20");
            duePath("[[[r]9]9]9h", 20, "r20");
            duePath("[l[u]2r]3h", 2, "");
            // at 7 by 8 LEFT would come to 28, RIGHT comes to 17
            duePath("lr6l", 7, "lr6");
            duePath("lr6r", 8, "lr7");
        });
        test(TERMS, "or 500 were done", x -> {
            String most = "[h]99[h]99[h]99[h]99[h]99";
            duePath(most, 495, "");
            duePath(most + "hhhh", 499, "");
            duePath(most + "hhhl", 499, "l");
            duePath(most + "hhhhl", 500, "l");
            duePath(most + "hhhhl2", 500, "l");
            duePath(most + "hhhhlh", 500, "l");
            duePath(most + "hhhhhl", 500, "");
            duePath(most + "hhh[l]9", 500, "l2");
            duePath("[[[h]99]99]99l", 500, "");
            duePath("[[[lu]99]99]99", 500, "");
        });
    }

    private static void feeding() {
        test("Promise 2", "Twenty bytes come behind the tape, of each number the highest first: how many it has", x -> {
            // l r r u, then four numbers of a letter behind three blanks
            due("feed", x.feed(0x6c727275, 0x2020206c, 0x20202072, 0x20202075, 0x20202032), 20);
            due("feed behind it", x.feed(0x6c202020, 0x20202020, 0x20202020, 0x20202020, 0x20202072), 40);
            due("now(9)", x.now(9), 40);
            due("path", x.path(), 10);
            dueTold(x, "after two feeds", "lrlr");
            due("feed of the least numbers", x.feed(MIN, MIN, MIN, MIN, MIN), 20);
            due("path of the byte 128", x.path(), -1000);
            due("feed of -1", x.feed(-1, -1, -1, -1, -1), 20);
            due("path of the byte 255", x.path(), -1000);
        });
        test("Promise 2", "NONE, and none come, if it would have more than 240", x -> {
            for (int i = 1; i <= 12; i++) {
                due("feed " + i, x.feed(0x6c6c6c6c, 0x20202020, 0x20202020, 0x20202020, 0x20202020), 20 * i);
            }
            for (int length : new int[] {240, 239, 230, 221}) {
                x.end(length);
                due("feed to " + (length + 20), x.feed(0, 0, 0, 0, 0), NONE);
                due("now(9)", x.now(9), length);
            }
            x.end(220);
            due("feed to 240", x.feed(0, 0, 0, 0, 0), 240);
            due("feed to 260", x.feed(0, 0, 0, 0, 0), NONE);
            // what was there ahead of the feeds that were NONE is still there
            x.end(4);
            due("path", x.path(), 4);
            due("feed after the path", x.feed(0, 0, 0, 0, 0), 20);
        });
    }

    private static void ending() {
        test("Promise 3", "The tape has its first n bytes alone: true", x -> {
            feedText(x, "lrl2r3");
            due("end(6)", x.end(6), true);
            due("now(9)", x.now(9), 6);
            due("end(5)", x.end(5), true);
            due("end(4)", x.end(4), true);
            due("now(9)", x.now(9), 4);
            due("path of lrl2", x.path(), 4);
            dueTold(x, "after lrl2", "lrl2");
            x.go(1, 1);
            // a NUMBER, a bracket that are cut are read as far as they are there
            feedText(x, "l123");
            x.end(2);
            due("path of l1", x.path(), 1);
            feedText(x, "[h]");
            x.end(2);
            due("path of [h", x.path(), -1002);
            feedText(x, "r");
            due("end(0)", x.end(0), true);
            due("now(9)", x.now(9), 0);
            due("end(0) of an empty tape", x.end(0), true);
        });
        test("Promise 3", "false, if it has not so many", x -> {
            due("end(1) of an empty tape", x.end(1), false);
            feedText(x, "lr");
            due("end(3)", x.end(3), false);
            due("end(MAX)", x.end(MAX), false);
            due("now(9)", x.now(9), 2);
            due("end(2)", x.end(2), true);
            due("end(1)", x.end(1), true);
            due("end(2), which was cut", x.end(2), false);
            due("path", x.path(), 1);
        });
        test("Promise 3", "or n is below 0", x -> {
            feedText(x, "lr");
            due("end(-1)", x.end(-1), false);
            due("end(MIN)", x.end(MIN), false);
            due("now(9)", x.now(9), 2);
            due("end(0)", x.end(0), true);
            due("end(-1) of an empty tape", x.end(-1), false);
        });
    }

    private static void going() {
        test("Promise 4", "The tape (empty then, even with a FAULT) is a PATH, which is gone", x -> {
            for (String text : new String[] {"l", "", "x", "l0", "[[[[", "[", blanks(201), "u9"}) {
                pathOf(x, text);
                due("now(9) after " + text, x.now(9), 0);
                due("path of the tape that is empty", x.path(), 0);
            }
        });
        test("Promise 4", "how many STEPS were done", x -> {
            due("path of an empty tape", x.path(), 0);
            due("path of blanks", pathOf(x, "  "), 0);
            due("path of u", pathOf(x, "u"), 0);
            due("path of l", pathOf(x, "l"), 1);
            due("path of l2r2u", pathOf(x, "l2r2u"), 5);
            due("path of 200 letters", pathOf(x, "h".repeat(200)), 200);
        });
        test("Promise 4", "-1000 less the place of a FAULT: none is", x -> {
            dueFault("x", 0, 1);
            dueFault("lx", 1, 1);
            dueFault("hlr2uu[l]3x", 10, 1);
            dueFault(blanks(199) + "x", 199, 1);
            dueFault(blanks(199) + "[", 200, 1);
            dueFault(blanks(200) + "x", 200, 1);
        });
    }

    private static void kinds() {
        test("Promise 5", "The kind of the FAULT of the latest path()", x -> {
            String[] texts = {"x", "l0", "[[[[", "[", "l", "l100", "", "[[[[", "u", blanks(201)};
            int[] kinds = {1, 2, 3, 1, 0, 2, 0, 3, 0, 1};
            for (int i = 0; i < texts.length; i++) {
                pathOf(x, texts[i]);
                due("fault after " + texts[i], x.fault(), kinds[i]);
                due("fault asked again", x.fault(), kinds[i]);
            }
            x.left();
            x.undo();
            feedText(x, "l");
            due("fault ahead of the next path()", x.fault(), 1);
        });
        test("Promise 5", "0 without one and ahead of any", x -> {
            due("fault of a new object", x.fault(), 0);
            feedText(x, "x");
            due("fault ahead of path()", x.fault(), 0);
            x.path();
            due("fault", x.fault(), 1);
            pathOf(x, "l");
            due("fault of a path without", x.fault(), 0);
        });
    }
}
