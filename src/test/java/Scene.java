/** Houses in which something has been told already, and what the tests ask of one by many calls. */
final class Scene {
    private Scene() {
    }

    /** A house with votes told by a text, from ward 0 on. */
    static SeatHouse with(String votes) {
        SeatHouse x = new SeatHouse();
        feed(x, votes);
        if (x.read(0) <= 0) {
            throw new IllegalArgumentException(votes);
        }
        return x;
    }

    static void feed(SeatHouse x, String text) {
        for (int i = 0; i < text.length(); i++) {
            if (x.feed(text.charAt(i)) < 0) {
                throw new IllegalArgumentException(text);
            }
        }
    }

    static void seats(SeatHouse x, int... n) {
        for (int ward = 0; ward < n.length; ward++) {
            x.seats(ward, n[ward]);
        }
    }

    static void setRow(SeatHouse x, int row, int... numbers) {
        for (int i = 0; i < numbers.length; i++) {
            x.set(row, i, numbers[i]);
        }
    }

    static String houseOf(SeatHouse x, int h) {
        StringBuilder text = new StringBuilder();
        for (int party = 0; party < 6; party++) {
            text.append(party == 0 ? "" : ",").append(x.house(h, party));
        }
        return text.toString();
    }

    static String planOf(SeatHouse x) {
        StringBuilder text = new StringBuilder();
        for (int i = 0; i < 24; i++) {
            text.append(i == 0 ? "" : i % 6 == 0 ? "/" : ",").append(x.cell(i / 6, i % 6));
        }
        return text.toString();
    }

    static String paperOf(SeatHouse x) {
        StringBuilder text = new StringBuilder();
        for (int i = 0; x.paper(i) != SeatHouse.NONE; i++) {
            text.append((char) x.paper(i));
        }
        return text.toString();
    }

    /** Everything is told, nothing as at first: votes, an image of others, bytes on the tape and the paper, rows. */
    static SeatHouse busy() {
        SeatHouse x = with("9,8,7,6,5,4");
        x.seats(0, 2);
        x.least(0, 1);
        x.bar(3);
        x.image();
        feed(x, "50,20,30,7,0,12/10,60,30,9,0,3/40,40,20,5,0,8/15,25,35,6,0,2");
        x.read(0);
        seats(x, 3, 4, 5, 2);
        x.least(0, 0);
        x.least(3, 1);
        x.join(5, 0);
        x.bar(20);
        x.way(5);
        x.tell(1, 3);
        x.spell(14);
        feed(x, "71,82");
        x.row(0, 40);
        x.row(1, 30);
        x.row(2, 0);
        setRow(x, 0, 5, -6, 7);
        x.set(0, 39, 8);
        x.lay(1, 3);
        return x;
    }

    /** As busy, but by a way that has no plans. */
    static SeatHouse planless() {
        SeatHouse x = busy();
        x.way(3);
        return x;
    }

    /** As busy, but with a plan whose products would be beyond a long. */
    static SeatHouse over() {
        SeatHouse x = busy();
        for (int i = 0; i < 24; i++) {
            x.vote(i / 6, i % 6, i % 6 < 4 ? 100000 : 0);
        }
        return x;
    }
}
