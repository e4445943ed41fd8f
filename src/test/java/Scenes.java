/** The states in which calls are refused: nothing told, some of all told, days that quarrel, no room left. */
final class Scenes {
    private Scenes() {
    }

    static Scene empty() {
        return new Scene("nothing told");
    }

    /** A bit of everything; no post leads to town 5, or from town 4. */
    static Scene ordinary() {
        Scene scene = new Scene("some of all told");
        scene.and(news -> news.post(0, 1, 3, 5)).and(news -> news.post(1, 2, 4, 9)).and(news -> news.post(0, 2, 7, 8));
        scene.and(news -> news.post(2, 0, 1, 60)).and(news -> news.post(5, 4, 2, 2));
        scene.and(news -> news.sheet(0, 0, 10)).and(news -> news.sheet(1, 1, -1)).and(news -> news.sheet(2, 2, 40));
        scene.and(news -> news.behind(1, 0)).and(news -> news.behind(2, 1)).and(news -> news.happened(4, 0, 9));
        scene.and(news -> news.say(0, 4, 1000, 3, true, false)).and(news -> news.say(1, 4, 1500, 7, false, false));
        scene.and(news -> news.truth(4, 1000)).and(news -> news.keep());
        scene.and(news -> news.sheet(5, 3, 11)).and(news -> news.sheet(0, 7, -1)).and(news -> news.behind(4, 2));
        scene.and(news -> news.say(2, 4, 1500, 7, false, false)).and(news -> news.say(2, 4, 0, 0, true, true));
        scene.and(news -> news.say(4, 4, 1900, 7, false, false)).and(news -> news.say(3, 9, 7, 255, false, false));
        scene.and(news -> news.say(4, 0, 5, 1, false, true)).and(news -> news.say(0, 4, 1000, 3, false, false));
        scene.and(news -> news.happened(0, 1, 12));
        scene.and(news -> news.truth(9, 8)).and(news -> news.own(11)).and(news -> news.closet(2));
        scene.write("w0,30,10;v1,5,20;o400,0;b12,11;x2,40;n1,4,15,20;b13,11;").and(news -> news.force());
        scene.and(news -> news.wipe()).write("w1,7,9;x0,0;o1,");
        scene.and(news -> news.worth(0, 0, 5)).and(news -> news.worth(1, 1, 9)).and(news -> news.worth(5, 3, -1000));
        return scene.and(news -> news.voices(4, false));
    }

    static Scene quarrel() {
        return ordinary().copy("days that quarrel").and(news -> news.dated(2, 5)).and(news -> news.span(0, 0));
    }

    /** All that has a most is there as often as it may be; no post leads to town 5. */
    static Scene full() {
        Scene scene = new Scene("no room left");
        for (int at = 0; at < 25; at++) {
            int from = at / 5;
            int to = at % 5;
            if (from != to) {
                scene.and(news -> news.post(from, to, 1 + from, 10 + to));
            }
        }
        scene.and(news -> news.post(5, 0, 2, 3));
        for (int i = 0; i < 12; i++) {
            int sheet = i;
            scene.and(news -> news.sheet(sheet % 6, sheet % 8, sheet % 3 == 0 ? 15 + 20 * sheet : -1));
        }
        for (int i = 0; i < 10; i++) {
            int thing = i;
            scene.and(news -> news.happened(thing, thing % 5, thing)).and(news -> news.truth(thing, 1000 + thing));
        }
        scene.and(news -> news.keep());
        for (int i = 0; i < 20; i++) {
            int later = i % 2 == 0 ? 6 + i % 4 : 10;
            int earlier = i % 5;
            scene.and(news -> news.behind(later, earlier));
        }
        for (int i = 0; i < 30; i++) {
            int saying = i;
            int sheet = i % 11 == 5 ? 4 : i % 11;
            boolean seen = i % 5 == 0;
            boolean denied = i % 6 == 0;
            scene.and(news -> news.say(sheet, saying % 29 % 4, 1000 + saying, saying % 7, seen, denied));
        }
        scene.and(news -> news.keep()).and(news -> news.dated(1, 30)).and(news -> news.truth(9, 9999));
        StringBuilder rules = new StringBuilder();
        for (int i = 0; i < 40; i++) {
            rules.append("obx".charAt(i % 3)).append(1 + i % 9).append(',').append(i / 5).append(';');
        }
        scene.write(rules.toString()).and(news -> news.force());
        for (int at = 0; at < 24; at++) {
            int choice = at / 4;
            int truth = at % 4;
            scene.and(news -> news.worth(choice, truth, 7 * choice - 13 * truth));
        }
        return scene.and(news -> news.own(40)).and(news -> news.closet(4));
    }
}
