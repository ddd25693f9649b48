/** Houses that the tests of the edges begin with: made anew for every few calls, as an object is used for 512 at most. */
enum Houses {
    NEW, FURNISHED, FULL, FULL_AND_OVER;

    static final int MOST_PASSERS = 10;
    static final int MOST_ROOMS = 8;

    private static final int[] HOLES = {0, 9, 17, 26, 34, 43, 51, 59};
    private static final int[] SEATS = {20, 0, 20, 1, 7, 20, 5, 20};

    PinholeHouse make() {
        switch (this) {
            case NEW: return new PinholeHouse();
            case FURNISHED: return furnished();
            case FULL: return full();
            default: return over();
        }
    }

    /** Two rooms with free seats, three passers-by, one of them gone, and some minutes and pence. */
    private static PinholeHouse furnished() {
        PinholeHouse house = new PinholeHouse();
        house.setLight(0, 90, 1);
        house.addRoom(20, 3, 15);
        house.addRoom(41, 5, 20);
        house.bore(1, 4);
        house.paint(1, 2);
        house.pass(14, 1, 7, 9);
        house.pass(1, -1, 9, 9);
        house.pass(40, 0, 8, 8);
        house.seat(0, 3);
        house.seat(1, 4);
        house.go(5);
        return house;
    }

    /** 8 rooms without a free seat, 10 passers-by, one of them gone, some minutes and pence. */
    private static PinholeHouse full() {
        PinholeHouse house = new PinholeHouse();
        for (int i = 0; i < MOST_ROOMS; i++) {
            house.addRoom(HOLES[i], i + 1, SEATS[i]);
            house.bore(i, 9 - i);
        }
        house.paint(3, 4);
        for (int i = 0; i < MOST_PASSERS; i++) {
            house.pass(6 * i, i % 3 - 1, 9 - i / 2, 5 + i / 3);
        }
        house.go(3);
        for (int i = 0; i < MOST_ROOMS; i++) {
            int free = house.room(i, 4) - house.room(i, 5);
            if (free > 0) {
                house.seat(i, free);
            }
        }
        return house;
    }

    private static PinholeHouse over() {
        PinholeHouse house = full();
        house.go(720);
        for (int i = 0; i < MOST_ROOMS; i++) {
            int free = house.room(i, 4) - house.room(i, 5);
            if (free > 0) {
                house.seat(i, free);
            }
        }
        return house;
    }
}
